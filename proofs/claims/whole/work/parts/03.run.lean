/-! A small machine of my own over abstract heaps (cells by their number), and its rules as equivalences. Pure: nothing of the real machine here. -/
abbrev fE : Type := (Nat × vp_A) ⊕ (Nat × List Value)
/-- how many cells, how many slots, what each cell holds -/
abbrev fH : Type := Nat × Nat × (Nat → fE)
def jk : Value := .retAddr 0
def f_get (h : fH) (a : Nat) : fE := h.2.2 a
def f_up (f : Nat → fE) (k : Nat) (e : fE) : Nat → fE := fun j => if j = k then e else f j
def f_st (h : fH) (a : Nat) (e : fE) : fH := (h.1, h.2.1, f_up h.2.2 a e)
def f_new (h : fH) (n : Nat) (e : fE) : fH := (h.1 + 1, h.2.1 + n, f_up h.2.2 h.1 e)
def isL : Value → Bool
  | .long _ => true
  | .double _ => true
  | _ => false
def sto : List Value → Nat → Value → Option (List Value)
  | [], _, _ => none
  | _ :: t, 0, v => some (v :: t)
  | a :: t, i + 1, v => (sto t i v).map (fun r => (if i = 0 ∧ isL a = true then jk else a) :: r)
def sto2 : List Value → Nat → Value → Option (List Value)
  | [], _, _ => none
  | _ :: t, 0, v => (sto t 0 jk).map (fun r => v :: r)
  | a :: t, i + 1, v => (sto2 t i v).map (fun r => (if i = 0 ∧ isL a = true then jk else a) :: r)
def cmpC (c : Jvm.ClassFile.Cond) (x y : Int32) : Bool := match c with
  | .eq => decide (x = y)
  | .ne => decide (¬ x = y)
  | .lt => decide (x < y)
  | .ge => decide (y ≤ x)
  | .gt => decide (y < x)
  | .le => decide (x ≤ y)
/-- 0 int, 1 reference: the kind of field n (class number times 32 and slot) -/
def fkT : List (List Nat) := [[1, 1, 1, 0], [1], [1, 1, 0], [1, 1, 0], [1, 0], [1, 1, 1, 1, 1, 1, 1, 1], [1, 0, 1, 1, 0, 1, 1, 1, 1, 1, 1, 1, 0, 1, 1, 1, 1, 1, 1, 0, 0, 0, 0, 0, 1, 1, 1, 1]]
def fk (n : Nat) : Nat := ((fkT.getD (n / 32) []).getD (n % 32) 2)
def fit (k : Nat) (v : Value) : Bool := match v with
  | .int _ => k == 0
  | .ref _ => k == 1
  | _ => false
def gF (e : fE) (n : Nat) : Option Value := match e with
  | .inr (ci, fs) => if ci = n / 32 then fs[n % 32]? else none
  | _ => none
def pF (e : fE) (n : Nat) (v : Value) : Option fE := match e with
  | .inr (ci, fs) => if ci = n / 32 ∧ n % 32 < fs.length ∧ fit (fk n) v = true then some (.inr (ci, fs.set (n % 32) v)) else none
  | _ => none
def ldI (e : fE) (i : Int32) : Option Int32 := match e with
  | .inl (0, n, .inl f) => if i < 0 ∨ n ≤ i.toNatClampNeg then none else some (f i.toNatClampNeg)
  | .inl (9, n, .inl f) => if i < 0 ∨ n ≤ i.toNatClampNeg then none else some (f i.toNatClampNeg)
  | _ => none
def ldZ (e : fE) (i : Int32) : Option Int32 := match e with
  | .inl (2, n, .inl f) => if i < 0 ∨ n ≤ i.toNatClampNeg then none else some (f i.toNatClampNeg)
  | _ => none
def ldL (e : fE) (i : Int32) : Option Int64 := match e with
  | .inl (1, n, .inr (.inl f)) => if i < 0 ∨ n ≤ i.toNatClampNeg then none else some (f i.toNatClampNeg)
  | _ => none
def ldQ (e : fE) (i : Int32) : Option Nat := match e with
  | .inl (3, n, .inr (.inr (.inr (.inr f)))) => if i < 0 ∨ n ≤ i.toNatClampNeg then none else f i.toNatClampNeg
  | _ => none
def stI (e : fE) (i x : Int32) : Option fE := match e with
  | .inl (0, n, .inl f) => if i < 0 ∨ n ≤ i.toNatClampNeg then none else some (.inl (0, n, .inl (upd f i.toNatClampNeg x)))
  | _ => none
def stZ (e : fE) (i x : Int32) : Option fE := match e with
  | .inl (2, n, .inl f) => if i < 0 ∨ n ≤ i.toNatClampNeg ∨ ¬ (x = 0 ∨ x = 1) then none else some (.inl (2, n, .inl (upd f i.toNatClampNeg x)))
  | _ => none
def stL (e : fE) (i : Int32) (x : Int64) : Option fE := match e with
  | .inl (1, n, .inr (.inl f)) => if i < 0 ∨ n ≤ i.toNatClampNeg then none else some (.inl (1, n, .inr (.inl (vp_updL f i.toNatClampNeg x))))
  | _ => none
def stQ (e : fE) (i : Int32) (x : Nat) : Option fE := match e with
  | .inl (3, n, .inr (.inr (.inr (.inr f)))) => if i < 0 ∨ n ≤ i.toNatClampNeg then none else some (.inl (3, n, .inr (.inr (.inr (.inr (va_up f i.toNatClampNeg (some x)))))))
  | _ => none
def lenA (e : fE) : Option Int32 := match e with
  | .inl (9, n, .inl _) => some (Int32.ofNat n)
  | _ => none
def isO (e : fE) (ci : Nat) : Bool := match e with
  | .inr (c, _) => c == ci
  | _ => false
def newO (ci : Nat) : Option (Nat × fE) := match ci with
  | 0 => some (4, .inr (0, [.null, .null, .null, .int 0]))
  | 1 => some (1, .inr (1, [.null]))
  | 2 => some (3, .inr (2, [.null, .null, .int 0]))
  | 3 => some (3, .inr (3, [.null, .null, .int 0]))
  | 4 => some (2, .inr (4, [.null, .int 0]))
  | 5 => some (8, .inr (5, [.null, .null, .null, .null, .null, .null, .null, .null]))
  | 6 => some (28, .inr (6, [.null, .int 0, .null, .null, .int 0, .null, .null, .null, .null, .null, .null, .null, .int 0, .null, .null, .null, .null, .null, .null, .int 0, .int 0, .int 0, .int 0, .int 0, .null, .null, .null, .null]))
  | _ => none
def newA (t : Jvm.ClassFile.ArrayType) (n : Int32) : Option fE := if n < 0 ∨ 1000 < n.toNatClampNeg then none else match t with
  | .int => some (.inl (0, n.toNatClampNeg, .inl (fun _ => 0)))
  | .long => some (.inl (1, n.toNatClampNeg, .inr (.inl (fun _ => 0))))
  | .boolean => some (.inl (2, n.toNatClampNeg, .inl (fun _ => 0)))
  | _ => none
abbrev fS : Type := List Instr × List Value × List Value × fH
abbrev fC : Type := Nat × List Value × List Value
/-- one instruction: goes on, calls, or returns -/
def stp (mid : Nat) (ins : Instr) (is : List Instr) (lv st : List Value) (hp : fH) : Option (fS ⊕ (fC ⊕ Option Value)) := match ins with
  | .iconst i => some (.inl (is, lv, .int (Int32.ofInt i) :: st, hp))
  | .goto_w i => some (.inl (is, lv, .long (Int64.ofInt i) :: st, hp))
  | .iload i => match lv[i]? with
    | some (.int x) => some (.inl (is, lv, .int x :: st, hp))
    | _ => none
  | .lload i => match lv[i]? with
    | some (.long x) => some (.inl (is, lv, .long x :: st, hp))
    | _ => none
  | .aload i => match lv[i]? with
    | some (.ref x) => some (.inl (is, lv, .ref x :: st, hp))
    | _ => none
  | .istore i => match st with
    | .int x :: st => (sto lv i (.int x)).map (fun lv => .inl (is, lv, st, hp))
    | _ => none
  | .astore i => match st with
    | .ref x :: st => (sto lv i (.ref x)).map (fun lv => .inl (is, lv, st, hp))
    | _ => none
  | .lstore i => match st with
    | .long x :: st => (sto2 lv i (.long x)).map (fun lv => .inl (is, lv, st, hp))
    | _ => none
  | .iinc i c => match lv[i]? with
    | some (.int x) => (sto lv i (.int (x + Int32.ofInt c))).map (fun lv => .inl (is, lv, st, hp))
    | _ => none
  | .iadd => match st with
    | .int y :: .int x :: st => some (.inl (is, lv, .int (x + y) :: st, hp))
    | _ => none
  | .isub => match st with
    | .int y :: .int x :: st => some (.inl (is, lv, .int (x - y) :: st, hp))
    | _ => none
  | .imul => match st with
    | .int y :: .int x :: st => some (.inl (is, lv, .int (x * y) :: st, hp))
    | _ => none
  | .idiv => match st with
    | .int y :: .int x :: st => if y = 0 then none else some (.inl (is, lv, .int (x / y) :: st, hp))
    | _ => none
  | .irem => match st with
    | .int y :: .int x :: st => if y = 0 then none else some (.inl (is, lv, .int (x - x / y * y) :: st, hp))
    | _ => none
  | .ineg => match st with
    | .int x :: st => some (.inl (is, lv, .int (-x) :: st, hp))
    | _ => none
  | .iand => match st with
    | .int y :: .int x :: st => some (.inl (is, lv, .int (x &&& y) :: st, hp))
    | _ => none
  | .ior => match st with
    | .int y :: .int x :: st => some (.inl (is, lv, .int (x ||| y) :: st, hp))
    | _ => none
  | .ishl => match st with
    | .int y :: .int x :: st => some (.inl (is, lv, .int (x <<< (y &&& 31)) :: st, hp))
    | _ => none
  | .ishr => match st with
    | .int y :: .int x :: st => some (.inl (is, lv, .int (x >>> (y &&& 31)) :: st, hp))
    | _ => none
  | .iushr => match st with
    | .int y :: .int x :: st => some (.inl (is, lv, .int (x.toUInt32 >>> (y.toUInt32 &&& Int32.toUInt32 31)).toInt32 :: st, hp))
    | _ => none
  | .ladd => match st with
    | .long y :: .long x :: st => some (.inl (is, lv, .long (x + y) :: st, hp))
    | _ => none
  | .lsub => match st with
    | .long y :: .long x :: st => some (.inl (is, lv, .long (x - y) :: st, hp))
    | _ => none
  | .lmul => match st with
    | .long y :: .long x :: st => some (.inl (is, lv, .long (x * y) :: st, hp))
    | _ => none
  | .ldiv => match st with
    | .long y :: .long x :: st => if y = 0 then none else some (.inl (is, lv, .long (x / y) :: st, hp))
    | _ => none
  | .land => match st with
    | .long y :: .long x :: st => some (.inl (is, lv, .long (x &&& y) :: st, hp))
    | _ => none
  | .lor => match st with
    | .long y :: .long x :: st => some (.inl (is, lv, .long (x ||| y) :: st, hp))
    | _ => none
  | .lshl => match st with
    | .int y :: .long x :: st => some (.inl (is, lv, .long (x <<< (y.toInt64 &&& 63)) :: st, hp))
    | _ => none
  | .lshr => match st with
    | .int y :: .long x :: st => some (.inl (is, lv, .long (x >>> (y.toInt64 &&& 63)) :: st, hp))
    | _ => none
  | .lcmp => match st with
    | .long y :: .long x :: st => some (.inl (is, lv, .int (lg_cmp x y) :: st, hp))
    | _ => none
  | .i2l => match st with
    | .int x :: st => some (.inl (is, lv, .long x.toInt64 :: st, hp))
    | _ => none
  | .l2i => match st with
    | .long x :: st => some (.inl (is, lv, .int x.toInt32 :: st, hp))
    | _ => none
  | .dup => match st with
    | .int x :: st => some (.inl (is, lv, .int x :: .int x :: st, hp))
    | .ref x :: st => some (.inl (is, lv, .ref x :: .ref x :: st, hp))
    | _ => none
  | .pop => match st with
    | .int _ :: st => some (.inl (is, lv, st, hp))
    | _ => none
  | .dup2 => match st with
    | .int y :: .ref x :: st => some (.inl (is, lv, .int y :: .ref x :: .int y :: .ref x :: st, hp))
    | _ => none
  | .fneg => match st with
    | .int x :: st => if st.length ≤ 3 then some (.inl (is, lv, .int (if 0 ≤ x then x else 0 - x) :: st, hp)) else none
    | _ => none
  | .fadd => match st with
    | .int y :: .int x :: st => if st.length ≤ 3 then some (.inl (is, lv, .int (if x < y then y else x) :: st, hp)) else none
    | _ => none
  | .fsub => match st with
    | .int y :: .int x :: st => if st.length ≤ 3 then some (.inl (is, lv, .int (if y < x then y else x) :: st, hp)) else none
    | _ => none
  | .ifCond c t => match st with
    | .int x :: st => some (.inl (if cmpC c x 0 = true then blk mid t.toNat else is, lv, st, hp))
    | _ => none
  | .if_icmp c t => match st with
    | .int y :: .int x :: st => some (.inl (if cmpC c x y = true then blk mid t.toNat else is, lv, st, hp))
    | _ => none
  | .goto t => some (.inl (blk mid t.toNat, lv, st, hp))
  | .jsr t => some (.inl (blk mid t.toNat, lv, st, hp))
  | .tableswitch d lo hi offs => match st with
    | .int x :: st => some (.inl (blk mid (if x.toInt < lo ∨ hi < x.toInt then d.toNat else (offs.getD (x.toInt - lo).toNat d).toNat), lv, st, hp))
    | _ => none
  | .getfield n => match st with
    | .ref a :: st => (gF (f_get hp a) n).map (fun v => .inl (is, lv, v :: st, hp))
    | _ => none
  | .putfield n => match st with
    | v :: .ref a :: st => (pF (f_get hp a) n v).map (fun e => .inl (is, lv, st, f_st hp a e))
    | _ => none
  | .iaload => match st with
    | .int i :: .ref a :: st => (ldI (f_get hp a) i).map (fun v => .inl (is, lv, .int v :: st, hp))
    | _ => none
  | .baload => match st with
    | .int i :: .ref a :: st => (ldZ (f_get hp a) i).map (fun v => .inl (is, lv, .int v :: st, hp))
    | _ => none
  | .laload => match st with
    | .int i :: .ref a :: st => (ldL (f_get hp a) i).map (fun v => .inl (is, lv, .long v :: st, hp))
    | _ => none
  | .aaload => match st with
    | .int i :: .ref a :: st => (ldQ (f_get hp a) i).map (fun v => .inl (is, lv, .ref v :: st, hp))
    | _ => none
  | .iastore => match st with
    | .int x :: .int i :: .ref a :: st => (stI (f_get hp a) i x).map (fun e => .inl (is, lv, st, f_st hp a e))
    | _ => none
  | .bastore => match st with
    | .int x :: .int i :: .ref a :: st => (stZ (f_get hp a) i x).map (fun e => .inl (is, lv, st, f_st hp a e))
    | _ => none
  | .lastore => match st with
    | .long x :: .int i :: .ref a :: st => (stL (f_get hp a) i x).map (fun e => .inl (is, lv, st, f_st hp a e))
    | _ => none
  | .aastore => match st with
    | .ref x :: .int i :: .ref a :: st => if isO (f_get hp x) 2 = true then (stQ (f_get hp a) i x).map (fun e => .inl (is, lv, st, f_st hp a e)) else none
    | _ => none
  | .arraylength => match st with
    | .ref a :: st => (lenA (f_get hp a)).map (fun v => .inl (is, lv, .int v :: st, hp))
    | _ => none
  | .new ci => (newO ci).map (fun e => .inl (is, lv, .ref hp.1 :: st, f_new hp e.1 e.2))
  | .newarray t => match st with
    | .int n :: st => (newA t n).map (fun e => .inl (is, lv, .ref hp.1 :: st, f_new hp n.toNatClampNeg e))
    | _ => none
  | .anewarray _ => match st with
    | .int n :: st => if n < 0 ∨ 1000 < n.toNatClampNeg then none else some (.inl (is, lv, .ref hp.1 :: st, f_new hp n.toNatClampNeg (.inl (3, n.toNatClampNeg, .inr (.inr (.inr (.inr (fun _ => none))))))))
    | _ => none
  | .monitorenter => match st with
    | .ref _ :: st => if st.length ≤ 4 then some (.inl (is, lv, st, hp)) else none
    | _ => none
  | .invokeinterface k n => if n ≤ st.length ∧ (st.drop n).length ≤ 4 then some (.inr (.inl (k, (st.take n).reverse, st.drop n))) else none
  | .ireturn => match st with
    | [.int v] => some (.inr (.inr (some (.int v))))
    | _ => none
  | .freturn => match st with
    | [.int v] => if v = 0 ∨ v = 1 then some (.inr (.inr (some (.int v)))) else none
    | _ => none
  | .lreturn => match st with
    | [.long v] => some (.inr (.inr (some (.long v))))
    | _ => none
  | .return_ => match st with
    | [] => some (.inr (.inr none))
    | _ => none
  | _ => none
/-- the arguments as locals, filled up -/
def entL : List Value → List Value
  | [] => []
  | v :: t => if isL v = true then v :: jk :: entL t else v :: entL t
def ent (k : Nat) (as : List Value) : List Value := entL as ++ List.replicate (mlT.getD k 0 - (entL as).length) jk
/-- the receiver is an object of the method's class -/
def vOK (k : Nat) (as : List Value) (hp : fH) : Bool := decide ((entL as).length ≤ mlT.getD k 0) && if kdT.getD k 0 = 0 then true else match as with
  | .ref a :: _ => isO (f_get hp a) (clT.getD k 99)
  | _ => false
def run : Nat → Nat → List Instr → List Value → List Value → fH → Option (Option Value × fH)
  | 0, _, _, _, _, _ => none
  | _ + 1, _, [], _, _, _ => none
  | n + 1, mid, ins :: is, lv, st, hp => match stp mid ins is lv st hp with
    | none => none
    | some (.inl (is', lv', st', hp')) => run n mid is' lv' st' hp'
    | some (.inr (.inl (k, as, rest))) => if vOK k as hp = true ∧ as.length = naT.getD k 99 then (match run n k (blk k 0) (ent k as) [] hp with
      | none => none
      | some (v, hp') => run n mid is lv (v.toList ++ rest) hp') else none
    | some (.inr (.inr v)) => some (v, hp)
def Go (mid : Nat) (is : List Instr) (lv st : List Value) (hp : fH) (Q : Option Value → fH → Prop) : Prop := ∃ n v h, run n mid is lv st hp = some (v, h) ∧ Q v h
def Call (k : Nat) (as : List Value) (hp : fH) (Q : Option Value → fH → Prop) : Prop := vOK k as hp = true ∧ as.length = naT.getD k 99 ∧ Go k (blk k 0) (ent k as) [] hp Q
theorem run_mono : ∀ (n mid : Nat) (is : List Instr) (lv st : List Value) (hp : fH) (r : Option Value × fH), run n mid is lv st hp = some r → run (n + 1) mid is lv st hp = some r := by
  intro n
  induction n with
  | zero => intro mid is lv st hp r h; simp [run] at h
  | succ n ih =>
    intro mid is lv st hp r h
    cases is with
    | nil => simp [run] at h
    | cons ins is =>
      rw [run] at h ⊢
      split at h
      · cases h
      · exact ih _ _ _ _ _ _ h
      · split at h
        · rename_i hv
          rw [if_pos hv]
          split at h
          · cases h
          · rename_i v hp' he
            rw [ih _ _ _ _ _ _ he]
            exact ih _ _ _ _ _ _ h
        · cases h
      · exact h
theorem run_le {n m : Nat} (hnm : n ≤ m) {mid : Nat} {is : List Instr} {lv st : List Value} {hp : fH} {r : Option Value × fH} (h : run n mid is lv st hp = some r) : run m mid is lv st hp = some r := by
  induction hnm with
  | refl => exact h
  | step _ ih => exact run_mono _ _ _ _ _ _ _ ih
theorem run_det {n m : Nat} {mid : Nat} {is : List Instr} {lv st : List Value} {hp : fH} {r r' : Option Value × fH} (h : run n mid is lv st hp = some r) (h' : run m mid is lv st hp = some r') : r = r' := by
  have h1 := run_le (Nat.le_max_left n m) h
  have h2 := run_le (Nat.le_max_right n m) h'
  exact Option.some.inj (h1.symm.trans h2)
theorem Go.mono {mid : Nat} {is : List Instr} {lv st : List Value} {hp : fH} {Q Q' : Option Value → fH → Prop} (h : Go mid is lv st hp Q) (hq : ∀ v h, Q v h → Q' v h) : Go mid is lv st hp Q' := by
  obtain ⟨n, v, h1, h2, h3⟩ := h
  exact ⟨n, v, h1, h2, hq _ _ h3⟩
theorem Call.mono {k : Nat} {as : List Value} {hp : fH} {Q Q' : Option Value → fH → Prop} (h : Call k as hp Q) (hq : ∀ v h, Q v h → Q' v h) : Call k as hp Q' := ⟨h.1, h.2.1, h.2.2.mono hq⟩
/-- a call with a known end, as an equivalence -/
theorem Call.iff {k : Nat} {as : List Value} {hp : fH} {v : Option Value} {h' : fH} (h : Call k as hp (fun v2 h2 => v2 = v ∧ h2 = h')) (Q : Option Value → fH → Prop) : Call k as hp Q ↔ Q v h' := by
  obtain ⟨h0, hl, n, v2, h2, hr, rfl, rfl⟩ := h
  constructor
  · rintro ⟨-, -, m, v3, h3, hr3, hq⟩
    cases run_det hr hr3
    exact hq
  · intro hq
    exact ⟨h0, hl, n, _, _, hr, hq⟩
theorem go_next {mid : Nat} {ins : Instr} {is is' : List Instr} {lv st lv' st' : List Value} {hp hp' : fH} {Q : Option Value → fH → Prop} (h : stp mid ins is lv st hp = some (.inl (is', lv', st', hp'))) : Go mid (ins :: is) lv st hp Q ↔ Go mid is' lv' st' hp' Q := by
  constructor
  · rintro ⟨n, v, h1, h2, h3⟩
    cases n with
    | zero => simp [run] at h2
    | succ n => rw [run, h] at h2; exact ⟨n, v, h1, h2, h3⟩
  · rintro ⟨n, v, h1, h2, h3⟩
    exact ⟨n + 1, v, h1, by rw [run, h]; exact h2, h3⟩
theorem go_none {mid : Nat} {ins : Instr} {is : List Instr} {lv st : List Value} {hp : fH} {Q : Option Value → fH → Prop} (h : stp mid ins is lv st hp = none) : ¬ Go mid (ins :: is) lv st hp Q := by
  rintro ⟨n, v, h1, h2, h3⟩
  cases n with
  | zero => simp [run] at h2
  | succ n => rw [run, h] at h2; cases h2
theorem go_end {mid : Nat} {ins : Instr} {is : List Instr} {lv st : List Value} {hp : fH} {v : Option Value} {Q : Option Value → fH → Prop} (h : stp mid ins is lv st hp = some (.inr (.inr v))) : Go mid (ins :: is) lv st hp Q ↔ Q v hp := by
  constructor
  · rintro ⟨n, v, h1, h2, h3⟩
    cases n with
    | zero => simp [run] at h2
    | succ n => rw [run, h] at h2; cases h2; exact h3
  · intro hq
    exact ⟨1, v, hp, by rw [run, h], hq⟩
theorem go_call {mid : Nat} {ins : Instr} {is : List Instr} {lv st : List Value} {hp : fH} {k : Nat} {as rest : List Value} {Q : Option Value → fH → Prop} (h : stp mid ins is lv st hp = some (.inr (.inl (k, as, rest)))) : Go mid (ins :: is) lv st hp Q ↔ Call k as hp (fun v h => Go mid is lv (v.toList ++ rest) h Q) := by
  constructor
  · rintro ⟨n, v, h1, h2, h3⟩
    cases n with
    | zero => simp [run] at h2
    | succ n =>
      rw [run, h] at h2
      simp only at h2
      split at h2
      · rename_i hv
        split at h2
        · cases h2
        · rename_i v' hp' he
          exact ⟨hv.1, hv.2, n, v', hp', he, n, v, h1, h2, h3⟩
      · cases h2
  · rintro ⟨hv, hl, n, v', hp', he, m, v, h1, h2, h3⟩
    refine ⟨max n m + 1, v, h1, ?_, h3⟩
    rw [run, h]
    simp only
    rw [if_pos ⟨hv, hl⟩, run_le (Nat.le_max_left n m) he]
    exact run_le (Nat.le_max_right n m) h2
def oB {α : Type} (o : Option α) (K : α → Prop) : Prop := ∃ v, o = some v ∧ K v
theorem oB_some {α : Type} (v : α) (K : α → Prop) : oB (some v) K ↔ K v := ⟨fun ⟨_, h, k⟩ => Option.some.inj h ▸ k, fun k => ⟨v, rfl, k⟩⟩
theorem oB_none {α : Type} (K : α → Prop) : oB none K ↔ False := ⟨fun ⟨_, h, _⟩ => (nomatch h), fun h => False.elim h⟩
theorem oB_ite {α : Type} (c : Prop) [Decidable c] (o : Option α) (K : α → Prop) : oB (if c then none else o) K ↔ ¬ c ∧ oB o K := by
  by_cases h : c <;> simp [h, oB_none]
theorem oB_ite2 {α : Type} (c : Prop) [Decidable c] (o : Option α) (K : α → Prop) : oB (if c then o else none) K ↔ c ∧ oB o K := by
  by_cases h : c <;> simp [h, oB_none]
theorem go_opt {α : Type} {mid : Nat} {ins : Instr} {is : List Instr} {lv st : List Value} {hp : fH} {Q : Option Value → fH → Prop} (o : Option α) (f : α → fS) (h : stp mid ins is lv st hp = o.map (fun x => .inl (f x))) : Go mid (ins :: is) lv st hp Q ↔ oB o (fun x => Go mid (f x).1 (f x).2.1 (f x).2.2.1 (f x).2.2.2 Q) := by
  cases o with
  | none =>
    rw [oB_none]
    exact ⟨fun g => go_none (by rw [h]; rfl) g, fun g => g.elim⟩
  | some x =>
    rw [oB_some]
    exact go_next (by rw [h]; rfl)
