/-! THE SMALL MACHINE IS SOUND: what it comes to, the real machine comes to. -/
def refT (t : FieldType) : Bool := match t with
  | .object _ => true
  | .array _ => true
  | _ => false
def finOK (ci : Nat) : Bool := match vwCl[ci]? with
  | some (C, T, N) => (List.range N).all (fun k => decide ((finT.getD ci []).getD k true = (T k).2.2.2) && (decide (fk (ci * 32 + k) ≠ 0) || decide (tyL ci k = .int)) && (decide (fk (ci * 32 + k) ≠ 1) || refT (tyL ci k)) && decide ((T k).1 = ownS ci))
  | none => false
theorem fin_all : (List.range 7).all finOK = true := by decide +kernel
theorem fin_ok {n : Nat} {C : String} {T : u_T} {N : Nat} (h : vwCl[n / 32]? = some (C, T, N)) (hk : n % 32 < N) : (finT.getD (n / 32) []).getD (n % 32) true = (T (n % 32)).2.2.2 ∧ (fk n = 0 → tyL (n / 32) (n % 32) = .int) ∧ (fk n = 1 → refT (tyL (n / 32) (n % 32)) = true) ∧ (T (n % 32)).1 = ownS (n / 32) := by
  have h7 : n / 32 < 7 := (cls_ok h).2.2.2
  have h1 := List.all_eq_true.mp fin_all _ (List.mem_range.mpr h7)
  unfold finOK at h1
  rw [h] at h1
  have h2 := List.all_eq_true.mp h1 _ (List.mem_range.mpr hk)
  have e : n / 32 * 32 + n % 32 = n := by omega
  simp only [Bool.and_eq_true, decide_eq_true_eq, Bool.or_eq_true, e] at h2
  obtain ⟨⟨⟨a1, a2⟩, a3⟩, a4⟩ := h2
  exact ⟨a1, fun q => a2.resolve_left (fun z => z q), fun q => a3.resolve_left (fun z => z q), a4⟩
theorem gF_inv {e : fE} {n : Nat} {v : Value} (h : gF e n = some v) : ∃ fs, e = .inr (n / 32, fs) ∧ fs[n % 32]? = some v := by
  unfold gF at h
  split at h
  · split at h
    · rename_i ci fs q; subst q; exact ⟨fs, rfl, h⟩
    · cases h
  · cases h
theorem pF_inv {e e' : fE} {n : Nat} {v : Value} (h : pF e n v = some e') : ∃ fs, e = .inr (n / 32, fs) ∧ n % 32 < fs.length ∧ fit (fk n) v = true ∧ e' = .inr (n / 32, fs.set (n % 32) v) := by
  unfold pF at h
  split at h
  · split at h
    · rename_i ci fs q
      obtain ⟨rfl, q2, q3⟩ := q
      exact ⟨fs, rfl, q2, q3, (Option.some.inj h).symm⟩
    · cases h
  · cases h
theorem ldI_inv {e : fE} {i x : Int32} (h : ldI e i = some x) : ∃ k n f, e = .inl (k, n, .inl f) ∧ (k = 0 ∨ k = 9) ∧ vp_in i n ∧ f i.toNatClampNeg = x := by
  unfold ldI at h
  split at h
  · split at h
    · cases h
    · rename_i n f q; exact ⟨0, n, f, rfl, Or.inl rfl, q, Option.some.inj h⟩
  · split at h
    · cases h
    · rename_i n f q; exact ⟨9, n, f, rfl, Or.inr rfl, q, Option.some.inj h⟩
  · cases h
theorem ldZ_inv {e : fE} {i x : Int32} (h : ldZ e i = some x) : ∃ n f, e = .inl (2, n, .inl f) ∧ vp_in i n ∧ f i.toNatClampNeg = x := by
  unfold ldZ at h
  split at h
  · split at h
    · cases h
    · rename_i n f q; exact ⟨n, f, rfl, q, Option.some.inj h⟩
  · cases h
theorem ldL_inv {e : fE} {i : Int32} {x : Int64} (h : ldL e i = some x) : ∃ n f, e = .inl (1, n, .inr (.inl f)) ∧ vp_in i n ∧ f i.toNatClampNeg = x := by
  unfold ldL at h
  split at h
  · split at h
    · cases h
    · rename_i n f q; exact ⟨n, f, rfl, q, Option.some.inj h⟩
  · cases h
theorem ldQ_inv {e : fE} {i : Int32} {x : Nat} (h : ldQ e i = some x) : ∃ n f, e = .inl (3, n, .inr (.inr (.inr (.inr f)))) ∧ vp_in i n ∧ f i.toNatClampNeg = some x := by
  unfold ldQ at h
  split at h
  · split at h
    · cases h
    · rename_i n f q; exact ⟨n, f, rfl, q, h⟩
  · cases h
theorem stI_inv {e e' : fE} {i x : Int32} (h : stI e i x = some e') : ∃ n f, e = .inl (0, n, .inl f) ∧ vp_in i n ∧ e' = .inl (0, n, .inl (upd f i.toNatClampNeg x)) := by
  unfold stI at h
  split at h
  · split at h
    · cases h
    · rename_i n f q; exact ⟨n, f, rfl, q, (Option.some.inj h).symm⟩
  · cases h
theorem stZ_inv {e e' : fE} {i x : Int32} (h : stZ e i x = some e') : ∃ n f, e = .inl (2, n, .inl f) ∧ vp_in i n ∧ (x = 0 ∨ x = 1) ∧ e' = .inl (2, n, .inl (upd f i.toNatClampNeg x)) := by
  unfold stZ at h
  split at h
  · split at h
    · cases h
    · rename_i n f q
      exact ⟨n, f, rfl, fun z => q (z.elim Or.inl (fun z => Or.inr (Or.inl z))), Classical.byContradiction (fun z => q (Or.inr (Or.inr z))), (Option.some.inj h).symm⟩
  · cases h
theorem stL_inv {e e' : fE} {i : Int32} {x : Int64} (h : stL e i x = some e') : ∃ n f, e = .inl (1, n, .inr (.inl f)) ∧ vp_in i n ∧ e' = .inl (1, n, .inr (.inl (vp_updL f i.toNatClampNeg x))) := by
  unfold stL at h
  split at h
  · split at h
    · cases h
    · rename_i n f q; exact ⟨n, f, rfl, q, (Option.some.inj h).symm⟩
  · cases h
theorem stQ_inv {e e' : fE} {i : Int32} {x : Nat} (h : stQ e i x = some e') : ∃ n f, e = .inl (3, n, .inr (.inr (.inr (.inr f)))) ∧ vp_in i n ∧ e' = .inl (3, n, .inr (.inr (.inr (.inr (va_up f i.toNatClampNeg (some x)))))) := by
  unfold stQ at h
  split at h
  · split at h
    · cases h
    · rename_i n f q; exact ⟨n, f, rfl, q, (Option.some.inj h).symm⟩
  · cases h
theorem isO_inv {e : fE} {ci : Nat} (h : isO e ci = true) : ∃ fs, e = .inr (ci, fs) := by
  unfold isO at h
  split at h
  · rename_i c fs; simp only [beq_iff_eq] at h; subst h; exact ⟨fs, rfl⟩
  · cases h
theorem RH.obj {dC : Nat → ClassId} {dI : Nat → Nat → Nat} {dA : Nat → ClassId} {b sb : Nat} {U : State} {hp : fH} {H : Heap} (h : RH dC dI dA b sb U hp H) {a ci : Nat} {fs : List Value} (he : f_get hp a = .inr (ci, fs)) (hc : ci < 7) : a < hp.1 ∧ a ≠ SL := by
  have h9 : a ≠ SL := by
    rintro rfl
    rcases h.2.2.2.2.2 with q | ⟨n, f, q⟩
    · rw [f_get, q] at he; cases he; omega
    · rw [f_get, q] at he; cases he
  exact ⟨h.lt (fun q => by rw [f_get, q] at he; cases he; omega) h9, h9⟩
theorem RH.arr {dC : Nat → ClassId} {dI : Nat → Nat → Nat} {dA : Nat → ClassId} {b sb : Nat} {U : State} {hp : fH} {H : Heap} (h : RH dC dI dA b sb U hp H) {a k : Nat} {x : vp_A} (he : f_get hp a = .inl (k, x)) (hc : k ≠ 9) : a < hp.1 ∧ a ≠ SL := by
  have h9 : a ≠ SL := by
    rintro rfl
    rcases h.2.2.2.2.2 with q | ⟨n, f, q⟩
    · rw [f_get, q] at he; cases he
    · rw [f_get, q] at he; cases he; exact hc rfl
  exact ⟨h.lt (fun q => by rw [f_get, q] at he; cases he) h9, h9⟩
theorem RH.scr {dC : Nat → ClassId} {dI : Nat → Nat → Nat} {dA : Nat → ClassId} {b sb : Nat} {U : State} {hp : fH} {H : Heap} (h : RH dC dI dA b sb U hp H) {a n : Nat} {x : (Nat → Int32) ⊕ (Nat → Int64) ⊕ (Nat → UInt32) ⊕ (Nat → UInt64) ⊕ (Nat → Option Nat)} (he : f_get hp a = .inl (9, n, x)) : a = SL :=
  Classical.byContradiction (fun q => h.2.2.2.2.1 a q n x he)
theorem cvN_b {b sb a : Nat} (h : a ≠ SL) : cvN b sb a = b + a := if_neg h
theorem cvN_s {b sb : Nat} : cvN b sb SL = sb := if_pos rfl
def tysO (dA : Nat → ClassId) : List (ClassId × FieldType) := [(dA 0, .int), (dA 1, .long), (dA 2, .boolean), (dA 3, .object RX2)]
/-- the nest mates' links -/
def NW (U : State) : Prop := ∀ q ∈ mtL, (q.2.2.2.2 = 3 ∨ q.2.2.2.2 = 4) → va_Nw (.methodLinkNest (ownS q.1) q.2.1 (yM q.2.2.1) RX5) U
theorem cat_sum (b sb : Nat) : ∀ st : List Value, ((st.map (cv b sb)).map fun v => v.category).sum ≤ 2 * st.length
  | [] => by simp
  | v :: t => by
    have h := cat_sum b sb t
    have h1 : (cv b sb v).category ≤ 2 := by rcases lv_cat (cv b sb v) with q | q <;> omega
    simp only [List.map_cons, List.sum_cons, List.length_cons]
    omega
theorem new_def {b sb n N2 : Nat} {C : String} {T : u_T} {N : Nat} {e3 : fE} (hv : vwCl[n]? = some (C, T, N)) (hg : newO n = some (N2, e3)) : N2 = N ∧ ∃ fs, e3 = .inr (n, fs) ∧ ∀ j, j < N → defaultValue (tyL n j) = vp_V (fs.map (cv b sb)) j := by
  match n, hv, hg with
  | 0, hv, hg => cases hv; cases hg; exact ⟨rfl, _, rfl, fun j hj => by match j, hj with | 0, _ => rfl | 1, _ => rfl | 2, _ => rfl | 3, _ => rfl⟩
  | 1, hv, hg => cases hv; cases hg; exact ⟨rfl, _, rfl, fun j hj => by match j, hj with | 0, _ => rfl⟩
  | 2, hv, hg => cases hv; cases hg; exact ⟨rfl, _, rfl, fun j hj => by match j, hj with | 0, _ => rfl | 1, _ => rfl | 2, _ => rfl⟩
  | 3, hv, hg => cases hv; cases hg; exact ⟨rfl, _, rfl, fun j hj => by match j, hj with | 0, _ => rfl | 1, _ => rfl | 2, _ => rfl⟩
  | 4, hv, hg => cases hv; cases hg; exact ⟨rfl, _, rfl, fun j hj => by match j, hj with | 0, _ => rfl | 1, _ => rfl⟩
  | 5, hv, hg => cases hv; cases hg; exact ⟨rfl, _, rfl, fun j hj => by match j, hj with | 0, _ => rfl | 1, _ => rfl | 2, _ => rfl | 3, _ => rfl | 4, _ => rfl | 5, _ => rfl | 6, _ => rfl | 7, _ => rfl⟩
  | 6, hv, hg => cases hv; cases hg; exact ⟨rfl, _, rfl, fun j hj => by match j, hj with | 0, _ => rfl | 1, _ => rfl | 2, _ => rfl | 3, _ => rfl | 4, _ => rfl | 5, _ => rfl | 6, _ => rfl | 7, _ => rfl | 8, _ => rfl | 9, _ => rfl | 10, _ => rfl | 11, _ => rfl | 12, _ => rfl | 13, _ => rfl | 14, _ => rfl | 15, _ => rfl | 16, _ => rfl | 17, _ => rfl | 18, _ => rfl | 19, _ => rfl | 20, _ => rfl | 21, _ => rfl | 22, _ => rfl | 23, _ => rfl | 24, _ => rfl | 25, _ => rfl | 26, _ => rfl | 27, _ => rfl | j + 28, h => exact absurd h (by omega)⟩
  | k + 7, hv, hg => simp [vwCl] at hv
theorem newA_inv {b sb : Nat} {t : Jvm.ClassFile.ArrayType} {n : Int32} {e : fE} (h : newA t n = some e) : ¬ n < 0 ∧ n.toNatClampNeg ≤ 1000 ∧ ∃ k ty a0, e = .inl (k, a0) ∧ newarray.typeOf t = ty ∧ Cond.arrayClass (newarray.typeOf t) ∈ AW ∧ ((k = 0 ∧ ty = .int) ∨ (k = 1 ∧ ty = .long) ∨ (k = 2 ∧ ty = .boolean)) ∧ (∀ cA : ClassId, vp_cell cA a0 = arrV cA n.toNatClampNeg (fun _ => defaultValue ty)) ∧ (∀ dA : Nat → ClassId, (tysO dA)[k]? = some (dA k, ty)) ∧ n.toNatClampNeg * componentBytes ty ≤ 536870912 ∧ cvA b sb a0 = a0 := by
  unfold newA at h
  split at h
  · cases h
  · rename_i hn
    have h1 : ¬ n < 0 := fun q => hn (Or.inl q)
    have h2 : n.toNatClampNeg ≤ 1000 := Nat.not_lt.mp (fun q => hn (Or.inr q))
    refine ⟨h1, h2, ?_⟩
    split at h
    · cases h; exact ⟨0, .int, _, rfl, rfl, ac_i, Or.inl ⟨rfl, rfl⟩, fun _ => rfl, fun _ => rfl, by simp only [componentBytes]; omega, rfl⟩
    · cases h; exact ⟨1, .long, _, rfl, rfl, ac_l, Or.inr (Or.inl ⟨rfl, rfl⟩), fun _ => rfl, fun _ => rfl, by simp only [componentBytes]; omega, rfl⟩
    · cases h; exact ⟨2, .boolean, _, rfl, rfl, ac_z, Or.inr (Or.inr ⟨rfl, rfl⟩), fun _ => rfl, fun _ => rfl, by simp only [componentBytes]; omega, rfl⟩
    · cases h
section SND
variable {p : Program} {l : Launch} {e : Env} {R : Room} {s : State} {m : MethodId} {args : Array Value} {below : List Frame} {meth : Method} {c : Code} {Qw : State → Prop} {dC : Nat → ClassId} {dI : Nat → Nat → Nat} {dA : Nat → ClassId} {b sb n0 s0 mid : Nat}
theorem W.sz {H : Heap} {locs : List Loc} {cells slots : Nat} {g : JFrame} (k : H.size ≤ s.heap.size + cells → W p l e R s m args below meth c H locs cells slots Qw g) : W p l e R s m args below meth c H locs cells slots Qw g := fun T hT X => k (by have := X.heapSize; rw [hT] at this; omega) T hT X
def Cx (p : Program) (R : Room) (s : State) (m : MethodId) (args : Array Value) (meth : Method) (c : Code) (dC : Nat → ClassId) (dI : Nat → Nat → Nat) (dA : Nat → ClassId) (b sb n0 mid : Nat) : Prop :=
  p.tables.exec = Jvm.exec ∧ c.code = cM mid ∧ c.maxLocals = mlT.getD mid 0 ∧ s.vm.findClass (ownS (clT.getD mid 99)) = some m.cls ∧ (∀ w ∈ AW, w.before args s = true) ∧ (kdT.getD mid 0 = 2 → meth.name = "<init>") ∧ va_K (dC, dI) vwCl (tysO dA) s ∧ NW s ∧ va_AO RX2 s ∧ rkT.getD mid 0 ≤ R.frames ∧ lrT.getD mid 0 ≤ R.locals ∧ s.heap.size = b + n0 ∧ sb < b
def Wk (p : Program) (l : Launch) (e : Env) (R : Room) (s : State) (m : MethodId) (args : Array Value) (below : List Frame) (meth : Method) (c : Code) (Qw : State → Prop) (dC : Nat → ClassId) (dI : Nat → Nat → Nat) (dA : Nat → ClassId) (b sb n0 s0 mid pc : Nat) (lv st : List Value) (hp : fH) : Prop :=
  ∀ (ls : Array Slot) (H : Heap) (locs : List Loc), LV b sb (mlT.getD mid 0) lv ls → RH dC dI dA b sb s hp H → va_S (fun q => b ≤ q) s.heap H locs → W p l e R s m args below meth c H locs (hp.1 - n0) (hp.2.1 - s0) Qw (F0 m pc ls (st.map (cv b sb)))
theorem scr_kept {H H1 : Heap} {locs locs1 : List Loc} (hz : s.heap.size = b + n0) (hsb : sb < b) (h : va_S (fun q => b ≤ q) s.heap H locs) (h1 : va_S (fun q => b ≤ q) s.heap H1 locs1) : H1[sb]? = H[sb]? := by
  rw [h.2.1 sb (by omega) (by omega), h1.2.1 sb (by omega) (by omega)]
/-- the heap's size is what the small machine counts -/
theorem RH.size {H : Heap} {locs : List Loc} {hp : fH} (hR : RH dC dI dA b sb s hp H) (hS : va_S (fun q => b ≤ q) s.heap H locs) (hz : s.heap.size = b + n0) (hn : n0 ≤ hp.1) (hu : H.size ≤ s.heap.size + (hp.1 - n0)) : H.size = b + hp.1 := by
  have h1 : b + hp.1 ≤ H.size := by
    rcases Nat.eq_zero_or_pos hp.1 with q | q
    · have := hS.1; omega
    · have h2 := (hR.1 (hp.1 - 1) _ (wsO_get (by omega))).lt
      dsimp only at h2
      omega
  omega

theorem snd_step (hC : Cx p R s m args meth c dC dI dA b sb n0 mid) {pc : Nat} {r : Instr} {len : Nat} {ins : Instr} {is : List Instr} {lv st : List Value} {hp : fH} {is' : List Instr} {lv' st' : List Value} {hp' : fH} (hd : decode (cM mid) pc = .ok (r, len)) (ht : tr (clT.getD mid 99) (rtT.getD mid 0 == 2) pc r = some ins) (hlen : isSw r = true ∨ len = ilen r) (htg : tgs (pcsT.getD mid []) ins = true) (hrm : cRm mid ins = true) (hck : chkM mid = true) (hnx : isTm ins = false → chkB mid (pc + len) is = true)
    (hs : stp mid ins is lv st hp = some (.inl (is', lv', st', hp'))) (hn0 : n0 ≤ hp.1) (hs0 : s0 ≤ hp.2.1) (hRc : hp'.1 - n0 ≤ R.cells) (hRs : hp'.2.1 - s0 ≤ R.slots) (hSL : hp'.1 ≤ SL)
    (kk : ∀ pc', chkB mid pc' is' = true → Wk p l e R s m args below meth c Qw dC dI dA b sb n0 s0 mid pc' lv' st' hp') : Wk p l e R s m args below meth c Qw dC dI dA b sb n0 s0 mid pc lv st hp := by
  obtain ⟨hx, hb, hml, hown, hts, hini, hK, hNW, hAO, hrk, hlr, hz, hsb⟩ := hC
  have hblk : ∀ t, (pcsT.getD mid []).contains t = true → chkB mid t (blk mid t) = true := fun t h => List.all_eq_true.mp hck t (List.contains_iff_mem.mp h)
  intro ls H locs hl hR hS
  cases r with
  | iconst i =>
    simp only [tr, Option.some.injEq] at ht
    subst ht
    obtain rfl : len = 1 := by simpa [isSw, ilen] using hlen
    simp only [stp] at hs
    simp only [Option.some.injEq, Sum.inl.injEq, Prod.mk.injEq] at hs
    obtain ⟨rfl, rfl, rfl, rfl⟩ := hs
    exact lv_iconst hx hb hd rfl (kk _ (hnx rfl) ls H locs hl hR hS)
  | bipush i =>
    simp only [tr] at ht
    split at ht
    · rename_i hv
      cases ht
      obtain rfl : len = 2 := by simpa [isSw, ilen] using hlen
      simp only [stp] at hs
      simp only [Option.some.injEq, Sum.inl.injEq, Prod.mk.injEq] at hs
      obtain ⟨rfl, rfl, rfl, rfl⟩ := hs
      exact lv_bipush hx hb hd hv (kk _ (hnx rfl) ls H locs hl hR hS)
    · cases ht
  | sipush i =>
    simp only [tr] at ht
    split at ht
    · rename_i hv
      cases ht
      obtain rfl : len = 3 := by simpa [isSw, ilen] using hlen
      simp only [stp] at hs
      simp only [Option.some.injEq, Sum.inl.injEq, Prod.mk.injEq] at hs
      obtain ⟨rfl, rfl, rfl, rfl⟩ := hs
      exact lv_sipush hx hb hd hv (kk _ (hnx rfl) ls H locs hl hR hS)
    · cases ht
  | ldc x =>
    simp only [tr, Option.map_eq_some_iff] at ht
    obtain ⟨v, hv, rfl⟩ := ht
    obtain rfl : len = 2 := by simpa [isSw, ilen] using hlen
    have hw := hts _ (wOK_in (List.all_eq_true.mp ldc_all _ (lk_mem hv)))
    simp only [stp] at hs
    simp only [Option.some.injEq, Sum.inl.injEq, Prod.mk.injEq] at hs
    obtain ⟨rfl, rfl, rfl, rfl⟩ := hs
    exact lv_ldc hx hb hown hw hd (kk _ (hnx rfl) ls H locs hl hR hS)
  | ldc_w x =>
    simp only [tr, Option.map_eq_some_iff] at ht
    obtain ⟨v, hv, rfl⟩ := ht
    obtain rfl : len = 3 := by simpa [isSw, ilen] using hlen
    have hw := hts _ (wOK_in (List.all_eq_true.mp ldc_all _ (lk_mem hv)))
    simp only [stp] at hs
    simp only [Option.some.injEq, Sum.inl.injEq, Prod.mk.injEq] at hs
    obtain ⟨rfl, rfl, rfl, rfl⟩ := hs
    exact lv_ldcw hx hb hown hw hd (kk _ (hnx rfl) ls H locs hl hR hS)
  | ldc2_w x =>
    simp only [tr, Option.map_eq_some_iff] at ht
    obtain ⟨v, hv, rfl⟩ := ht
    obtain rfl : len = 3 := by simpa [isSw, ilen] using hlen
    have hw := hts _ (wOK_in (List.all_eq_true.mp ldc2_all _ (lk_mem hv)))
    simp only [stp] at hs
    simp only [Option.some.injEq, Sum.inl.injEq, Prod.mk.injEq] at hs
    obtain ⟨rfl, rfl, rfl, rfl⟩ := hs
    exact lv_ldc2 hx hb hown hw hd (kk _ (hnx rfl) ls H locs hl hR hS)
  | lconst k =>
    simp only [tr, Option.some.injEq] at ht
    subst ht
    obtain rfl : len = 1 := by simpa [isSw, ilen] using hlen
    simp only [stp] at hs
    simp only [Option.some.injEq, Sum.inl.injEq, Prod.mk.injEq] at hs
    obtain ⟨rfl, rfl, rfl, rfl⟩ := hs
    exact lv_lconst hx hb hd (by rw [Int64.ofInt_eq_ofNat]) (kk _ (hnx rfl) ls H locs hl hR hS)
  | iload i =>
    simp only [tr, Option.some.injEq] at ht
    subst ht
    obtain rfl : len = 2 := by simpa [isSw, ilen] using hlen
    simp only [stp] at hs
    split at hs
    · rename_i x hlv
      simp only [Option.some.injEq, Sum.inl.injEq, Prod.mk.injEq] at hs
      obtain ⟨rfl, rfl, rfl, rfl⟩ := hs
      exact lv_iload hx hb hd (hl.at hlv rfl) (kk _ (hnx rfl) ls H locs hl hR hS)
    · cases hs
  | iload_n k =>
    simp only [tr, Option.some.injEq] at ht
    subst ht
    obtain rfl : len = 1 := by simpa [isSw, ilen] using hlen
    simp only [stp] at hs
    split at hs
    · rename_i x hlv
      simp only [Option.some.injEq, Sum.inl.injEq, Prod.mk.injEq] at hs
      obtain ⟨rfl, rfl, rfl, rfl⟩ := hs
      exact lv_iload_n hx hb hd rfl (hl.at hlv rfl) (kk _ (hnx rfl) ls H locs hl hR hS)
    · cases hs
  | lload i =>
    simp only [tr, Option.some.injEq] at ht
    subst ht
    obtain rfl : len = 2 := by simpa [isSw, ilen] using hlen
    simp only [stp] at hs
    split at hs
    · rename_i x hlv
      simp only [Option.some.injEq, Sum.inl.injEq, Prod.mk.injEq] at hs
      obtain ⟨rfl, rfl, rfl, rfl⟩ := hs
      exact lv_lload hx hb hd (hl.at hlv rfl) (kk _ (hnx rfl) ls H locs hl hR hS)
    · cases hs
  | lload_n k =>
    simp only [tr, Option.some.injEq] at ht
    subst ht
    obtain rfl : len = 1 := by simpa [isSw, ilen] using hlen
    simp only [stp] at hs
    split at hs
    · rename_i x hlv
      simp only [Option.some.injEq, Sum.inl.injEq, Prod.mk.injEq] at hs
      obtain ⟨rfl, rfl, rfl, rfl⟩ := hs
      exact lv_lload_n hx hb hd rfl (hl.at hlv rfl) (kk _ (hnx rfl) ls H locs hl hR hS)
    · cases hs
  | aload i =>
    simp only [tr, Option.some.injEq] at ht
    subst ht
    obtain rfl : len = 2 := by simpa [isSw, ilen] using hlen
    simp only [stp] at hs
    split at hs
    · rename_i x hlv
      simp only [Option.some.injEq, Sum.inl.injEq, Prod.mk.injEq] at hs
      obtain ⟨rfl, rfl, rfl, rfl⟩ := hs
      exact lv_aload hx hb hd (hl.at hlv rfl) (kk _ (hnx rfl) ls H locs hl hR hS)
    · cases hs
  | aload_n k =>
    simp only [tr, Option.some.injEq] at ht
    subst ht
    obtain rfl : len = 1 := by simpa [isSw, ilen] using hlen
    simp only [stp] at hs
    split at hs
    · rename_i x hlv
      simp only [Option.some.injEq, Sum.inl.injEq, Prod.mk.injEq] at hs
      obtain ⟨rfl, rfl, rfl, rfl⟩ := hs
      exact lv_aload_n hx hb hd rfl (hl.at hlv rfl) (kk _ (hnx rfl) ls H locs hl hR hS)
    · cases hs
  | istore i =>
    simp only [tr, Option.some.injEq] at ht
    subst ht
    obtain rfl : len = 2 := by simpa [isSw, ilen] using hlen
    simp only [stp] at hs
    split at hs
    · simp only [Option.map_eq_some_iff] at hs
      obtain ⟨lv2, hlv2, hs⟩ := hs
      simp only [Sum.inl.injEq, Prod.mk.injEq] at hs
      obtain ⟨rfl, rfl, rfl, rfl⟩ := hs
      have hi := (sto_get _ _ _ _ hlv2).1
      rw [hl.1] at hi
      exact lv_istore hx hb hd hl.2 hi rfl (fun ls2 hl2 => kk _ (hnx rfl) ls2 H locs (hl.sto1 hlv2 hl2) hR hS)
    · cases hs
  | istore_n k =>
    simp only [tr, Option.some.injEq] at ht
    subst ht
    obtain rfl : len = 1 := by simpa [isSw, ilen] using hlen
    simp only [stp] at hs
    split at hs
    · simp only [Option.map_eq_some_iff] at hs
      obtain ⟨lv2, hlv2, hs⟩ := hs
      simp only [Sum.inl.injEq, Prod.mk.injEq] at hs
      obtain ⟨rfl, rfl, rfl, rfl⟩ := hs
      have hi := (sto_get _ _ _ _ hlv2).1
      rw [hl.1] at hi
      exact lv_istore_n hx hb hd rfl hl.2 hi rfl (fun ls2 hl2 => kk _ (hnx rfl) ls2 H locs (hl.sto1 hlv2 hl2) hR hS)
    · cases hs
  | astore i =>
    simp only [tr, Option.some.injEq] at ht
    subst ht
    obtain rfl : len = 2 := by simpa [isSw, ilen] using hlen
    simp only [stp] at hs
    split at hs
    · simp only [Option.map_eq_some_iff] at hs
      obtain ⟨lv2, hlv2, hs⟩ := hs
      simp only [Sum.inl.injEq, Prod.mk.injEq] at hs
      obtain ⟨rfl, rfl, rfl, rfl⟩ := hs
      have hi := (sto_get _ _ _ _ hlv2).1
      rw [hl.1] at hi
      exact lv_astore hx hb hd hl.2 hi rfl (fun ls2 hl2 => kk _ (hnx rfl) ls2 H locs (hl.sto1 hlv2 hl2) hR hS)
    · cases hs
  | astore_n k =>
    simp only [tr, Option.some.injEq] at ht
    subst ht
    obtain rfl : len = 1 := by simpa [isSw, ilen] using hlen
    simp only [stp] at hs
    split at hs
    · simp only [Option.map_eq_some_iff] at hs
      obtain ⟨lv2, hlv2, hs⟩ := hs
      simp only [Sum.inl.injEq, Prod.mk.injEq] at hs
      obtain ⟨rfl, rfl, rfl, rfl⟩ := hs
      have hi := (sto_get _ _ _ _ hlv2).1
      rw [hl.1] at hi
      exact lv_astore_n hx hb hd rfl hl.2 hi rfl (fun ls2 hl2 => kk _ (hnx rfl) ls2 H locs (hl.sto1 hlv2 hl2) hR hS)
    · cases hs
  | lstore i =>
    simp only [tr, Option.some.injEq] at ht
    subst ht
    obtain rfl : len = 2 := by simpa [isSw, ilen] using hlen
    simp only [stp] at hs
    split at hs
    · simp only [Option.map_eq_some_iff] at hs
      obtain ⟨lv2, hlv2, hs⟩ := hs
      simp only [Sum.inl.injEq, Prod.mk.injEq] at hs
      obtain ⟨rfl, rfl, rfl, rfl⟩ := hs
      have hi := (sto2_get _ _ _ _ hlv2).1
      rw [hl.1] at hi
      exact lv_lstore hx hb hd hl.2 hi rfl (fun ls2 hl2 => kk _ (hnx rfl) ls2 H locs (hl.sto2 hlv2 hl2) hR hS)
    · cases hs
  | lstore_n k =>
    simp only [tr, Option.some.injEq] at ht
    subst ht
    obtain rfl : len = 1 := by simpa [isSw, ilen] using hlen
    simp only [stp] at hs
    split at hs
    · simp only [Option.map_eq_some_iff] at hs
      obtain ⟨lv2, hlv2, hs⟩ := hs
      simp only [Sum.inl.injEq, Prod.mk.injEq] at hs
      obtain ⟨rfl, rfl, rfl, rfl⟩ := hs
      have hi := (sto2_get _ _ _ _ hlv2).1
      rw [hl.1] at hi
      exact lv_lstore_n hx hb hd rfl hl.2 hi rfl (fun ls2 hl2 => kk _ (hnx rfl) ls2 H locs (hl.sto2 hlv2 hl2) hR hS)
    · cases hs
  | iinc i k =>
    simp only [tr, Option.some.injEq] at ht
    subst ht
    obtain rfl : len = 3 := by simpa [isSw, ilen] using hlen
    simp only [stp] at hs
    split at hs
    · rename_i x hlv
      simp only [Option.map_eq_some_iff] at hs
      obtain ⟨lv2, hlv2, hs⟩ := hs
      simp only [Sum.inl.injEq, Prod.mk.injEq] at hs
      obtain ⟨rfl, rfl, rfl, rfl⟩ := hs
      have hi := (sto_get _ _ _ _ hlv2).1
      rw [hl.1] at hi
      have hm := lvA_mem (b := b) (sb := sb) lv 0 i (.int x) hlv rfl
      rw [Nat.zero_add] at hm
      obtain ⟨k2, hk2⟩ := List.getElem?_of_mem hm
      exact lv_iinc hx hb hd hl.2 (k := k2) hk2 rfl hi rfl (fun ls2 hl2 => kk _ (hnx rfl) ls2 H locs (hl.sto1 hlv2 hl2) hR hS)
    · cases hs
  | iadd =>
    simp only [tr, Option.some.injEq] at ht
    subst ht
    obtain rfl : len = 1 := by simpa [isSw, ilen] using hlen
    simp only [stp] at hs
    split at hs
    · simp only [Option.some.injEq, Sum.inl.injEq, Prod.mk.injEq] at hs
      obtain ⟨rfl, rfl, rfl, rfl⟩ := hs
      exact lv_iadd hx hb hd (kk _ (hnx rfl) ls H locs hl hR hS)
    · cases hs
  | isub =>
    simp only [tr, Option.some.injEq] at ht
    subst ht
    obtain rfl : len = 1 := by simpa [isSw, ilen] using hlen
    simp only [stp] at hs
    split at hs
    · simp only [Option.some.injEq, Sum.inl.injEq, Prod.mk.injEq] at hs
      obtain ⟨rfl, rfl, rfl, rfl⟩ := hs
      exact lv_isub hx hb hd (kk _ (hnx rfl) ls H locs hl hR hS)
    · cases hs
  | imul =>
    simp only [tr, Option.some.injEq] at ht
    subst ht
    obtain rfl : len = 1 := by simpa [isSw, ilen] using hlen
    simp only [stp] at hs
    split at hs
    · simp only [Option.some.injEq, Sum.inl.injEq, Prod.mk.injEq] at hs
      obtain ⟨rfl, rfl, rfl, rfl⟩ := hs
      exact lv_imul hx hb hd (kk _ (hnx rfl) ls H locs hl hR hS)
    · cases hs
  | iand =>
    simp only [tr, Option.some.injEq] at ht
    subst ht
    obtain rfl : len = 1 := by simpa [isSw, ilen] using hlen
    simp only [stp] at hs
    split at hs
    · simp only [Option.some.injEq, Sum.inl.injEq, Prod.mk.injEq] at hs
      obtain ⟨rfl, rfl, rfl, rfl⟩ := hs
      exact lv_iand hx hb hd (kk _ (hnx rfl) ls H locs hl hR hS)
    · cases hs
  | ior =>
    simp only [tr, Option.some.injEq] at ht
    subst ht
    obtain rfl : len = 1 := by simpa [isSw, ilen] using hlen
    simp only [stp] at hs
    split at hs
    · simp only [Option.some.injEq, Sum.inl.injEq, Prod.mk.injEq] at hs
      obtain ⟨rfl, rfl, rfl, rfl⟩ := hs
      exact lv_ior hx hb hd (kk _ (hnx rfl) ls H locs hl hR hS)
    · cases hs
  | ishl =>
    simp only [tr, Option.some.injEq] at ht
    subst ht
    obtain rfl : len = 1 := by simpa [isSw, ilen] using hlen
    simp only [stp] at hs
    split at hs
    · simp only [Option.some.injEq, Sum.inl.injEq, Prod.mk.injEq] at hs
      obtain ⟨rfl, rfl, rfl, rfl⟩ := hs
      exact lv_ishl hx hb hd (kk _ (hnx rfl) ls H locs hl hR hS)
    · cases hs
  | ishr =>
    simp only [tr, Option.some.injEq] at ht
    subst ht
    obtain rfl : len = 1 := by simpa [isSw, ilen] using hlen
    simp only [stp] at hs
    split at hs
    · simp only [Option.some.injEq, Sum.inl.injEq, Prod.mk.injEq] at hs
      obtain ⟨rfl, rfl, rfl, rfl⟩ := hs
      exact lv_ishr hx hb hd (kk _ (hnx rfl) ls H locs hl hR hS)
    · cases hs
  | ladd =>
    simp only [tr, Option.some.injEq] at ht
    subst ht
    obtain rfl : len = 1 := by simpa [isSw, ilen] using hlen
    simp only [stp] at hs
    split at hs
    · simp only [Option.some.injEq, Sum.inl.injEq, Prod.mk.injEq] at hs
      obtain ⟨rfl, rfl, rfl, rfl⟩ := hs
      exact lv_ladd hx hb hd (kk _ (hnx rfl) ls H locs hl hR hS)
    · cases hs
  | lsub =>
    simp only [tr, Option.some.injEq] at ht
    subst ht
    obtain rfl : len = 1 := by simpa [isSw, ilen] using hlen
    simp only [stp] at hs
    split at hs
    · simp only [Option.some.injEq, Sum.inl.injEq, Prod.mk.injEq] at hs
      obtain ⟨rfl, rfl, rfl, rfl⟩ := hs
      exact lv_lsub hx hb hd (kk _ (hnx rfl) ls H locs hl hR hS)
    · cases hs
  | lmul =>
    simp only [tr, Option.some.injEq] at ht
    subst ht
    obtain rfl : len = 1 := by simpa [isSw, ilen] using hlen
    simp only [stp] at hs
    split at hs
    · simp only [Option.some.injEq, Sum.inl.injEq, Prod.mk.injEq] at hs
      obtain ⟨rfl, rfl, rfl, rfl⟩ := hs
      exact lv_lmul hx hb hd (kk _ (hnx rfl) ls H locs hl hR hS)
    · cases hs
  | land =>
    simp only [tr, Option.some.injEq] at ht
    subst ht
    obtain rfl : len = 1 := by simpa [isSw, ilen] using hlen
    simp only [stp] at hs
    split at hs
    · simp only [Option.some.injEq, Sum.inl.injEq, Prod.mk.injEq] at hs
      obtain ⟨rfl, rfl, rfl, rfl⟩ := hs
      exact lv_land hx hb hd (kk _ (hnx rfl) ls H locs hl hR hS)
    · cases hs
  | lor =>
    simp only [tr, Option.some.injEq] at ht
    subst ht
    obtain rfl : len = 1 := by simpa [isSw, ilen] using hlen
    simp only [stp] at hs
    split at hs
    · simp only [Option.some.injEq, Sum.inl.injEq, Prod.mk.injEq] at hs
      obtain ⟨rfl, rfl, rfl, rfl⟩ := hs
      exact lv_lor hx hb hd (kk _ (hnx rfl) ls H locs hl hR hS)
    · cases hs
  | iushr =>
    simp only [tr, Option.some.injEq] at ht
    subst ht
    obtain rfl : len = 1 := by simpa [isSw, ilen] using hlen
    simp only [stp] at hs
    split at hs
    · simp only [Option.some.injEq, Sum.inl.injEq, Prod.mk.injEq] at hs
      obtain ⟨rfl, rfl, rfl, rfl⟩ := hs
      exact lv_iushr hx hb hd rfl (kk _ (hnx rfl) ls H locs hl hR hS)
    · cases hs
  | lshl =>
    simp only [tr, Option.some.injEq] at ht
    subst ht
    obtain rfl : len = 1 := by simpa [isSw, ilen] using hlen
    simp only [stp] at hs
    split at hs
    · simp only [Option.some.injEq, Sum.inl.injEq, Prod.mk.injEq] at hs
      obtain ⟨rfl, rfl, rfl, rfl⟩ := hs
      exact lv_lshl hx hb hd rfl (kk _ (hnx rfl) ls H locs hl hR hS)
    · cases hs
  | lshr =>
    simp only [tr, Option.some.injEq] at ht
    subst ht
    obtain rfl : len = 1 := by simpa [isSw, ilen] using hlen
    simp only [stp] at hs
    split at hs
    · simp only [Option.some.injEq, Sum.inl.injEq, Prod.mk.injEq] at hs
      obtain ⟨rfl, rfl, rfl, rfl⟩ := hs
      exact lv_lshr hx hb hd rfl (kk _ (hnx rfl) ls H locs hl hR hS)
    · cases hs
  | lcmp =>
    simp only [tr, Option.some.injEq] at ht
    subst ht
    obtain rfl : len = 1 := by simpa [isSw, ilen] using hlen
    simp only [stp] at hs
    split at hs
    · simp only [Option.some.injEq, Sum.inl.injEq, Prod.mk.injEq] at hs
      obtain ⟨rfl, rfl, rfl, rfl⟩ := hs
      exact W.lcmp hx hb hd (kk _ (hnx rfl) ls H locs hl hR hS)
    · cases hs
  | ineg =>
    simp only [tr, Option.some.injEq] at ht
    subst ht
    obtain rfl : len = 1 := by simpa [isSw, ilen] using hlen
    simp only [stp] at hs
    split at hs
    · simp only [Option.some.injEq, Sum.inl.injEq, Prod.mk.injEq] at hs
      obtain ⟨rfl, rfl, rfl, rfl⟩ := hs
      exact lv_ineg hx hb hd (kk _ (hnx rfl) ls H locs hl hR hS)
    · cases hs
  | i2l =>
    simp only [tr, Option.some.injEq] at ht
    subst ht
    obtain rfl : len = 1 := by simpa [isSw, ilen] using hlen
    simp only [stp] at hs
    split at hs
    · simp only [Option.some.injEq, Sum.inl.injEq, Prod.mk.injEq] at hs
      obtain ⟨rfl, rfl, rfl, rfl⟩ := hs
      exact lv_i2l hx hb hd rfl (kk _ (hnx rfl) ls H locs hl hR hS)
    · cases hs
  | l2i =>
    simp only [tr, Option.some.injEq] at ht
    subst ht
    obtain rfl : len = 1 := by simpa [isSw, ilen] using hlen
    simp only [stp] at hs
    split at hs
    · simp only [Option.some.injEq, Sum.inl.injEq, Prod.mk.injEq] at hs
      obtain ⟨rfl, rfl, rfl, rfl⟩ := hs
      exact lv_l2i hx hb hd rfl (kk _ (hnx rfl) ls H locs hl hR hS)
    · cases hs
  | idiv =>
    simp only [tr, Option.some.injEq] at ht
    subst ht
    obtain rfl : len = 1 := by simpa [isSw, ilen] using hlen
    simp only [stp] at hs
    split at hs
    · split at hs
      · cases hs
      · rename_i hne
        simp only [Option.some.injEq, Sum.inl.injEq, Prod.mk.injEq] at hs
        obtain ⟨rfl, rfl, rfl, rfl⟩ := hs
        exact lv_idiv hx hb hd hne (kk _ (hnx rfl) ls H locs hl hR hS)
    · cases hs
  | irem =>
    simp only [tr, Option.some.injEq] at ht
    subst ht
    obtain rfl : len = 1 := by simpa [isSw, ilen] using hlen
    simp only [stp] at hs
    split at hs
    · split at hs
      · cases hs
      · rename_i hne
        simp only [Option.some.injEq, Sum.inl.injEq, Prod.mk.injEq] at hs
        obtain ⟨rfl, rfl, rfl, rfl⟩ := hs
        exact lv_irem hx hb hd hne (kk _ (hnx rfl) ls H locs hl hR hS)
    · cases hs
  | ldiv =>
    simp only [tr, Option.some.injEq] at ht
    subst ht
    obtain rfl : len = 1 := by simpa [isSw, ilen] using hlen
    simp only [stp] at hs
    split at hs
    · split at hs
      · cases hs
      · rename_i hne
        simp only [Option.some.injEq, Sum.inl.injEq, Prod.mk.injEq] at hs
        obtain ⟨rfl, rfl, rfl, rfl⟩ := hs
        exact lv_ldiv hx hb hd hne (kk _ (hnx rfl) ls H locs hl hR hS)
    · cases hs
  | dup =>
    simp only [tr, Option.some.injEq] at ht
    subst ht
    obtain rfl : len = 1 := by simpa [isSw, ilen] using hlen
    simp only [stp] at hs
    split at hs
    · simp only [Option.some.injEq, Sum.inl.injEq, Prod.mk.injEq] at hs
      obtain ⟨rfl, rfl, rfl, rfl⟩ := hs
      exact lv_dup hx hb hd rfl (kk _ (hnx rfl) ls H locs hl hR hS)
    · simp only [Option.some.injEq, Sum.inl.injEq, Prod.mk.injEq] at hs
      obtain ⟨rfl, rfl, rfl, rfl⟩ := hs
      exact lv_dup hx hb hd rfl (kk _ (hnx rfl) ls H locs hl hR hS)
    · cases hs
  | pop =>
    simp only [tr, Option.some.injEq] at ht
    subst ht
    obtain rfl : len = 1 := by simpa [isSw, ilen] using hlen
    simp only [stp] at hs
    split at hs
    · simp only [Option.some.injEq, Sum.inl.injEq, Prod.mk.injEq] at hs
      obtain ⟨rfl, rfl, rfl, rfl⟩ := hs
      exact lv_pop hx hb hd rfl (kk _ (hnx rfl) ls H locs hl hR hS)
    · cases hs
  | dup2 =>
    simp only [tr, Option.some.injEq] at ht
    subst ht
    obtain rfl : len = 1 := by simpa [isSw, ilen] using hlen
    simp only [stp] at hs
    split at hs
    · simp only [Option.some.injEq, Sum.inl.injEq, Prod.mk.injEq] at hs
      obtain ⟨rfl, rfl, rfl, rfl⟩ := hs
      exact lv_dup2_11 hx hb hd rfl rfl (kk _ (hnx rfl) ls H locs hl hR hS)
    · cases hs
  | goto of =>
    simp only [tr, Option.map_eq_some_iff, jmp] at ht
    obtain ⟨t, h1, rfl⟩ := ht
    split at h1
    · rename_i hge
      cases h1
      simp only [stp] at hs
      simp only [Option.some.injEq, Sum.inl.injEq, Prod.mk.injEq] at hs
      obtain ⟨rfl, rfl, rfl, rfl⟩ := hs
      obtain rfl : len = 3 := by simpa [isSw, ilen] using hlen
      exact lv_goto hx hb hd (Int.toNat_of_nonneg hge).symm (kk _ (hblk _ htg) ls H locs hl hR hS)
    · cases h1
  | if_icmp cd of =>
    simp only [tr, Option.map_eq_some_iff, jmp] at ht
    obtain ⟨t, h1, rfl⟩ := ht
    split at h1
    · rename_i hge
      cases h1
      simp only [stp] at hs
      split at hs
      · simp only [Option.some.injEq, Sum.inl.injEq, Prod.mk.injEq] at hs
        obtain ⟨rfl, rfl, rfl, rfl⟩ := hs
        obtain rfl : len = 3 := by simpa [isSw, ilen] using hlen
        cases cd
        · exact lv_icmp_eq hx hb hd (Int.toNat_of_nonneg hge).symm (fun q => kk _ (by rw [if_pos (by simp only [cmpC, decide_eq_true_eq]; exact q)]; exact hblk _ htg) ls H locs hl hR hS) (fun q => kk _ (by rw [if_neg (by simp only [cmpC, decide_eq_true_eq]; exact q)]; exact hnx rfl) ls H locs hl hR hS)
        · exact lv_icmp_ne hx hb hd (Int.toNat_of_nonneg hge).symm (fun q => kk _ (by rw [if_pos (by simp only [cmpC, decide_eq_true_eq]; exact q)]; exact hblk _ htg) ls H locs hl hR hS) (fun q => kk _ (by rw [if_neg (by simp only [cmpC, decide_eq_true_eq]; exact fun z => z q)]; exact hnx rfl) ls H locs hl hR hS)
        · exact lv_icmp_lt hx hb hd (Int.toNat_of_nonneg hge).symm (fun q => kk _ (by rw [if_pos (by simp only [cmpC, decide_eq_true_eq]; exact q)]; exact hblk _ htg) ls H locs hl hR hS) (fun q => kk _ (by rw [if_neg (by simp only [cmpC, decide_eq_true_eq]; exact q)]; exact hnx rfl) ls H locs hl hR hS)
        · exact lv_icmp_ge hx hb hd (Int.toNat_of_nonneg hge).symm (fun q => kk _ (by rw [if_pos (by simp only [cmpC, decide_eq_true_eq]; exact q)]; exact hblk _ htg) ls H locs hl hR hS) (fun q => kk _ (by rw [if_neg (by simp only [cmpC, decide_eq_true_eq]; exact q)]; exact hnx rfl) ls H locs hl hR hS)
        · exact lv_icmp_gt hx hb hd (Int.toNat_of_nonneg hge).symm (fun q => kk _ (by rw [if_pos (by simp only [cmpC, decide_eq_true_eq]; exact q)]; exact hblk _ htg) ls H locs hl hR hS) (fun q => kk _ (by rw [if_neg (by simp only [cmpC, decide_eq_true_eq]; exact q)]; exact hnx rfl) ls H locs hl hR hS)
        · exact lv_icmp_le hx hb hd (Int.toNat_of_nonneg hge).symm (fun q => kk _ (by rw [if_pos (by simp only [cmpC, decide_eq_true_eq]; exact q)]; exact hblk _ htg) ls H locs hl hR hS) (fun q => kk _ (by rw [if_neg (by simp only [cmpC, decide_eq_true_eq]; exact q)]; exact hnx rfl) ls H locs hl hR hS)
      · cases hs
    · cases h1
  | ifCond cd of =>
    simp only [tr, Option.map_eq_some_iff, jmp] at ht
    obtain ⟨t, h1, rfl⟩ := ht
    split at h1
    · rename_i hge
      cases h1
      simp only [stp] at hs
      split at hs
      · simp only [Option.some.injEq, Sum.inl.injEq, Prod.mk.injEq] at hs
        obtain ⟨rfl, rfl, rfl, rfl⟩ := hs
        obtain rfl : len = 3 := by simpa [isSw, ilen] using hlen
        cases cd
        · exact lv_if_eq hx hb hd (Int.toNat_of_nonneg hge).symm (fun q => kk _ (by rw [if_pos (by simp only [cmpC, decide_eq_true_eq]; exact q)]; exact hblk _ htg) ls H locs hl hR hS) (fun q => kk _ (by rw [if_neg (by simp only [cmpC, decide_eq_true_eq]; exact q)]; exact hnx rfl) ls H locs hl hR hS)
        · exact lv_if_ne hx hb hd (Int.toNat_of_nonneg hge).symm (fun q => kk _ (by rw [if_pos (by simp only [cmpC, decide_eq_true_eq]; exact q)]; exact hblk _ htg) ls H locs hl hR hS) (fun q => kk _ (by rw [if_neg (by simp only [cmpC, decide_eq_true_eq]; exact fun z => z q)]; exact hnx rfl) ls H locs hl hR hS)
        · exact lv_if_lt hx hb hd (Int.toNat_of_nonneg hge).symm (fun q => kk _ (by rw [if_pos (by simp only [cmpC, decide_eq_true_eq]; exact q)]; exact hblk _ htg) ls H locs hl hR hS) (fun q => kk _ (by rw [if_neg (by simp only [cmpC, decide_eq_true_eq]; exact q)]; exact hnx rfl) ls H locs hl hR hS)
        · exact lv_if_ge hx hb hd (Int.toNat_of_nonneg hge).symm (fun q => kk _ (by rw [if_pos (by simp only [cmpC, decide_eq_true_eq]; exact q)]; exact hblk _ htg) ls H locs hl hR hS) (fun q => kk _ (by rw [if_neg (by simp only [cmpC, decide_eq_true_eq]; exact q)]; exact hnx rfl) ls H locs hl hR hS)
        · exact lv_if_gt hx hb hd (Int.toNat_of_nonneg hge).symm (fun q => kk _ (by rw [if_pos (by simp only [cmpC, decide_eq_true_eq]; exact q)]; exact hblk _ htg) ls H locs hl hR hS) (fun q => kk _ (by rw [if_neg (by simp only [cmpC, decide_eq_true_eq]; exact q)]; exact hnx rfl) ls H locs hl hR hS)
        · exact lv_if_le hx hb hd (Int.toNat_of_nonneg hge).symm (fun q => kk _ (by rw [if_pos (by simp only [cmpC, decide_eq_true_eq]; exact q)]; exact hblk _ htg) ls H locs hl hR hS) (fun q => kk _ (by rw [if_neg (by simp only [cmpC, decide_eq_true_eq]; exact q)]; exact hnx rfl) ls H locs hl hR hS)
      · cases hs
    · cases h1
  | tableswitch d lo hi offs =>
    simp only [tr] at ht
    split at ht
    · rename_i hge
      cases ht
      obtain ⟨g1, g2, g3⟩ := hge
      simp only [stp] at hs
      split at hs
      · rename_i x st0
        simp only [Option.some.injEq, Sum.inl.injEq, Prod.mk.injEq] at hs
        obtain ⟨rfl, rfl, rfl, rfl⟩ := hs
        simp only [tgs, Bool.and_eq_true] at htg
        by_cases ho : x.toInt < lo ∨ hi < x.toInt
        · rw [if_pos ho] at kk
          exact lv_tableOut hx hb hd ho (Int.toNat_of_nonneg g1).symm (kk _ (hblk _ htg.1) ls H locs hl hR hS)
        · rw [if_neg ho] at kk
          have hlt : (x.toInt - lo).toNat < offs.size := by omega
          have e1 : offs[(x.toInt - lo).toNat]? = some (offs[(x.toInt - lo).toNat]) := Array.getElem?_eq_getElem hlt
          have hmem : offs[(x.toInt - lo).toNat] ∈ offs.toList := by simp
          have hge2 : 0 ≤ (pc : Int) + offs[(x.toInt - lo).toNat] := of_decide_eq_true (List.all_eq_true.mp g2 _ hmem)
          have e2 : (offs.map (fun o => (pc : Int) + o)).getD (x.toInt - lo).toNat ((pc : Int) + d) = (pc : Int) + offs[(x.toInt - lo).toNat] := by simp [Array.getD, hlt]
          rw [e2] at kk
          have hc2 : (pcsT.getD mid []).contains ((pc : Int) + offs[(x.toInt - lo).toNat]).toNat = true := List.all_eq_true.mp htg.2 _ (by simp only [Array.toList_map, List.mem_map]; exact ⟨_, hmem, rfl⟩)
          exact lv_tableIn hx hb hd (fun q => ho (Or.inl q)) (fun q => ho (Or.inr q)) e1 (Int.toNat_of_nonneg hge2).symm (kk _ (hblk _ hc2) ls H locs hl hR hS)
      · cases hs
    · cases ht
  | getfield x =>
    simp only [tr, Option.map_eq_some_iff] at ht
    obtain ⟨n, hn, rfl⟩ := ht
    obtain rfl : len = 3 := by simpa [isSw, ilen] using hlen
    obtain ⟨C, T, N, hv, hk, hw⟩ := fld_ok hn
    simp only [stp] at hs
    split at hs
    · rename_i a st0
      simp only [Option.map_eq_some_iff] at hs
      obtain ⟨v, hg, hs⟩ := hs
      simp only [Sum.inl.injEq, Prod.mk.injEq] at hs
      obtain ⟨rfl, rfl, rfl, rfl⟩ := hs
      obtain ⟨fs, he, hf⟩ := gF_inv hg
      obtain ⟨hin, hty, hnm, h7⟩ := cls_ok hv
      obtain ⟨ha, h9⟩ := hR.obj he h7
      have hcell := wsO_get (dA := dA) (b := b) (sb := sb) ha
      rw [show hp.2.2 a = f_get hp a from rfl, he] at hcell
      rw [List.map_cons, show cv b sb (.ref a) = .ref (b + a) by simp [cv, cvN_b h9]]
      exact va_get hx hb hts hin hown hK hR.1 a hcell hv (n % 32) hk (hts _ hw) (fun _ h => h) (v := cv b sb v) (by rw [List.getElem?_map, hf]; rfl) hd (kk _ (hnx rfl) ls H locs hl hR hS)
    · cases hs
  | putfield x =>
    simp only [tr, Option.map_eq_some_iff] at ht
    obtain ⟨n, hn, rfl⟩ := ht
    obtain rfl : len = 3 := by simpa [isSw, ilen] using hlen
    obtain ⟨C, T, N, hv, hk, hw⟩ := fld_ok hn
    simp only [stp] at hs
    split at hs
    · rename_i v a st0
      simp only [Option.map_eq_some_iff] at hs
      obtain ⟨e2, hg, hs⟩ := hs
      simp only [Sum.inl.injEq, Prod.mk.injEq] at hs
      obtain ⟨rfl, rfl, rfl, rfl⟩ := hs
      obtain ⟨fs, he, hf, hfit, rfl⟩ := pF_inv hg
      obtain ⟨hin, hty, hnm, h7⟩ := cls_ok hv
      obtain ⟨ha, h9⟩ := hR.obj he h7
      obtain ⟨f1, f2, f3, f4⟩ := fin_ok hv hk
      have hcell := wsO_get (dA := dA) (b := b) (sb := sb) ha
      rw [show hp.2.2 a = f_get hp a from rfl, he] at hcell
      have hnar : narrow (tyL (n / 32) (n % 32)) (cv b sb v) = cv b sb v ∧ fits (tyL (n / 32) (n % 32)) (cv b sb v) = true := by
        cases v with
        | int y => rw [f2 (by simpa [fit] using hfit)]; exact ⟨rfl, rfl⟩
        | ref y =>
          have h3 := f3 (by simpa [fit] using hfit)
          generalize tyL (n / 32) (n % 32) = ty at h3
          cases ty <;> first | exact ⟨rfl, rfl⟩ | (simp [refT] at h3)
        | _ => simp [fit] at hfit
      rw [List.map_cons, List.map_cons, show cv b sb (.ref a) = .ref (b + a) by simp [cv, cvN_b h9]]
      have fin : ∀ (H1 : Heap) (locs1 : List Loc), va_P (dC, dI) vwCl ((wsO dA b sb hp).set a (b + a, .inr (n / 32, (fs.map (cv b sb)).set (n % 32) (cv b sb v)))) H1 → va_D (fun q => b ≤ q) ((wsO dA b sb hp).set a (b + a, .inr (n / 32, (fs.map (cv b sb)).set (n % 32) (cv b sb v)))) → va_S (fun q => b ≤ q) s.heap H1 locs1 → W p l e R s m args below meth c H1 locs1 (hp.1 - n0) (hp.2.1 - s0) Qw (F0 m (pc + 3) ls (st0.map (cv b sb))) := by
        intro H1 locs1 q1 q2 q3
        have e3 := wsO_set (dA := dA) (b := b) (sb := sb) (hp := hp) (k := a) (.inr (n / 32, fs.set (n % 32) v))
        simp only [cvE, List.map_set] at e3
        rw [e3] at q1
        exact kk _ (hnx rfl) ls H1 locs1 hl (hR.put ha (fun n x h => by cases h) (scr_kept hz hsb hS q3) q1) q3
      cases hfin : (T (n % 32)).2.2.2 with
      | false => exact va_put hx hb hts hin (tyL (n / 32)) hty hnm hown hK hR.1 wsO_D hS a hcell hv (n % 32) hk (hts _ hw) (fun _ h => h) hfin (hty _ hk) hnar.1 hnar.2 (by simpa using hf) hd fin
      | true =>
        have hr2 : kdT.getD mid 0 = 2 ∧ clT.getD mid 99 = n / 32 := by
          rw [hfin] at f1
          simp only [cRm, f1, Bool.not_true, Bool.false_or, Bool.and_eq_true, beq_iff_eq] at hrm
          exact hrm
        exact va_putF hx hb hts hin (tyL (n / 32)) hty hnm hown hK hR.1 wsO_D hS a hcell hv (n % 32) hk (hts _ hw) (fun _ h => h) hfin (hini hr2.1) (by rw [f4, hr2.2]) (hty _ hk) hnar.1 hnar.2 (by simpa using hf) hd fin
    · cases hs
  | baload =>
    simp only [tr, Option.some.injEq] at ht
    subst ht
    obtain rfl : len = 1 := by simpa [isSw, ilen] using hlen
    simp only [stp] at hs
    split at hs
    · rename_i i a st0
      simp only [Option.map_eq_some_iff] at hs
      obtain ⟨v, hg, hs⟩ := hs
      simp only [Sum.inl.injEq, Prod.mk.injEq] at hs
      obtain ⟨rfl, rfl, rfl, rfl⟩ := hs
      obtain ⟨n, f, he, hi, hf⟩ := ldZ_inv hg
      obtain ⟨ha, h9⟩ := hR.arr he (by decide)
      have hcell := wsO_get (dA := dA) (b := b) (sb := sb) ha
      rw [show hp.2.2 a = f_get hp a from rfl, he] at hcell
      rw [List.map_cons, List.map_cons, show cv b sb (.ref a) = .ref (b + a) by simp [cv, cvN_b h9]]
      refine va_zald hx hb hK hR.1 a 2 hcell rfl hi hd ?_
      rw [show f i.toNatClampNeg = v from hf]
      exact kk _ (hnx rfl) ls H locs hl hR hS
    · cases hs
  | laload =>
    simp only [tr, Option.some.injEq] at ht
    subst ht
    obtain rfl : len = 1 := by simpa [isSw, ilen] using hlen
    simp only [stp] at hs
    split at hs
    · rename_i i a st0
      simp only [Option.map_eq_some_iff] at hs
      obtain ⟨v, hg, hs⟩ := hs
      simp only [Sum.inl.injEq, Prod.mk.injEq] at hs
      obtain ⟨rfl, rfl, rfl, rfl⟩ := hs
      obtain ⟨n, f, he, hi, hf⟩ := ldL_inv hg
      obtain ⟨ha, h9⟩ := hR.arr he (by decide)
      have hcell := wsO_get (dA := dA) (b := b) (sb := sb) ha
      rw [show hp.2.2 a = f_get hp a from rfl, he] at hcell
      rw [List.map_cons, List.map_cons, show cv b sb (.ref a) = .ref (b + a) by simp [cv, cvN_b h9]]
      refine va_lald hx hb hK hR.1 a 1 hcell rfl hi hd ?_
      rw [show f i.toNatClampNeg = v from hf]
      exact kk _ (hnx rfl) ls H locs hl hR hS
    · cases hs
  | aaload =>
    simp only [tr, Option.some.injEq] at ht
    subst ht
    obtain rfl : len = 1 := by simpa [isSw, ilen] using hlen
    simp only [stp] at hs
    split at hs
    · rename_i i a st0
      simp only [Option.map_eq_some_iff] at hs
      obtain ⟨v, hg, hs⟩ := hs
      simp only [Sum.inl.injEq, Prod.mk.injEq] at hs
      obtain ⟨rfl, rfl, rfl, rfl⟩ := hs
      obtain ⟨n, f, he, hi, hf⟩ := ldQ_inv hg
      obtain ⟨ha, h9⟩ := hR.arr he (by decide)
      have hcell := wsO_get (dA := dA) (b := b) (sb := sb) ha
      rw [show hp.2.2 a = f_get hp a from rfl, he] at hcell
      rw [List.map_cons, List.map_cons, show cv b sb (.ref a) = .ref (b + a) by simp [cv, cvN_b h9]]
      refine va_aldq hx hb hK hR.1 a 3 hcell rfl hi hd ?_
      rw [show va_rf ((f i.toNatClampNeg).map (cvN b sb)) = Value.ref (cvN b sb v) from by rw [hf]; rfl]
      exact kk _ (hnx rfl) ls H locs hl hR hS
    · cases hs
  | iaload =>
    simp only [tr, Option.some.injEq] at ht
    subst ht
    obtain rfl : len = 1 := by simpa [isSw, ilen] using hlen
    simp only [stp] at hs
    split at hs
    · rename_i i a st0
      simp only [Option.map_eq_some_iff] at hs
      obtain ⟨v, hg, hs⟩ := hs
      simp only [Sum.inl.injEq, Prod.mk.injEq] at hs
      obtain ⟨rfl, rfl, rfl, rfl⟩ := hs
      obtain ⟨k, n, f, he, hk, hi, hf⟩ := ldI_inv hg
      rcases hk with rfl | rfl
      · obtain ⟨ha, h9⟩ := hR.arr he (by decide)
        have hcell := wsO_get (dA := dA) (b := b) (sb := sb) ha
        rw [show hp.2.2 a = f_get hp a from rfl, he] at hcell
        rw [List.map_cons, List.map_cons, show cv b sb (.ref a) = .ref (b + a) by simp [cv, cvN_b h9]]
        refine va_iald hx hb hK hR.1 a 0 hcell rfl hi hd ?_
        rw [hf]
        exact kk _ (hnx rfl) ls H locs hl hR hS
      · have h9 := hR.scr he
        subst h9
        obtain ⟨scr, x1, x2, x3, x4, x5⟩ := hR.2.1 n f he
        have hlt : i.toNatClampNeg < n := Nat.not_le.mp fun q => hi (Or.inr q)
        rw [List.map_cons, List.map_cons, show cv b sb (.ref SL) = .ref sb by simp [cv, cvN_s]]
        refine W.iald (v := .int (f i.toNatClampNeg)) hx hb x1 x2 x3 (by rw [x4]; exact hi) (x5 _ hlt) rfl rfl hd ?_
        rw [hf]
        exact kk _ (hnx rfl) ls H locs hl hR hS
    · cases hs
  | arraylength =>
    simp only [tr, Option.some.injEq] at ht
    subst ht
    obtain rfl : len = 1 := by simpa [isSw, ilen] using hlen
    simp only [stp] at hs
    split at hs
    · rename_i a st0
      simp only [Option.map_eq_some_iff] at hs
      obtain ⟨v, hg, hs⟩ := hs
      simp only [Sum.inl.injEq, Prod.mk.injEq] at hs
      obtain ⟨rfl, rfl, rfl, rfl⟩ := hs
      unfold lenA at hg
      split at hg
      · rename_i n f he
        cases hg
        have h10 := hR.scr he
        subst h10
        obtain ⟨scr, x1, x2, x3, x4, x5⟩ := hR.2.1 n f he
        rw [List.map_cons, show cv b sb (.ref SL) = .ref sb by simp [cv, cvN_s]]
        exact W.alen (n := Int32.ofNat n) hx hb x1 x2 (by rw [x4] <;> rfl) rfl rfl hd (kk _ (hnx rfl) ls H locs hl hR hS)
      · cases hg
    · cases hs
  | iastore =>
    simp only [tr, Option.some.injEq] at ht
    subst ht
    obtain rfl : len = 1 := by simpa [isSw, ilen] using hlen
    simp only [stp] at hs
    split at hs
    · rename_i x i a st0
      simp only [Option.map_eq_some_iff] at hs
      obtain ⟨v, hg, hs⟩ := hs
      simp only [Sum.inl.injEq, Prod.mk.injEq] at hs
      obtain ⟨rfl, rfl, rfl, rfl⟩ := hs
      obtain ⟨n, f, he, hi, rfl⟩ := stI_inv hg
      obtain ⟨ha, h9⟩ := hR.arr he (by decide)
      have hcell := wsO_get (dA := dA) (b := b) (sb := sb) ha
      rw [show hp.2.2 a = f_get hp a from rfl, he] at hcell
      rw [List.map_cons, List.map_cons, List.map_cons, show cv b sb (.ref a) = .ref (b + a) by simp [cv, cvN_b h9]]
      refine va_iast hx hb hK hR.1 wsO_D hS a 0 hcell rfl hi hd (fun H1 locs1 q1 q2 q3 => ?_)
      have e3 := wsO_set (dA := dA) (b := b) (sb := sb) (hp := hp) (k := a) (.inl (0, n, .inl (upd f i.toNatClampNeg x)))
      have q1' : va_P (dC, dI) vwCl ((wsO dA b sb hp).set a (b + a, cvE dA b sb (.inl (0, n, .inl (upd f i.toNatClampNeg x))))) H1 := q1
      rw [e3] at q1'
      exact kk _ (hnx rfl) ls H1 locs1 hl (hR.put ha (fun n x h => by cases h) (scr_kept hz hsb hS q3) q1') q3
    · cases hs
  | lastore =>
    simp only [tr, Option.some.injEq] at ht
    subst ht
    obtain rfl : len = 1 := by simpa [isSw, ilen] using hlen
    simp only [stp] at hs
    split at hs
    · rename_i x i a st0
      simp only [Option.map_eq_some_iff] at hs
      obtain ⟨v, hg, hs⟩ := hs
      simp only [Sum.inl.injEq, Prod.mk.injEq] at hs
      obtain ⟨rfl, rfl, rfl, rfl⟩ := hs
      obtain ⟨n, f, he, hi, rfl⟩ := stL_inv hg
      obtain ⟨ha, h9⟩ := hR.arr he (by decide)
      have hcell := wsO_get (dA := dA) (b := b) (sb := sb) ha
      rw [show hp.2.2 a = f_get hp a from rfl, he] at hcell
      rw [List.map_cons, List.map_cons, List.map_cons, show cv b sb (.ref a) = .ref (b + a) by simp [cv, cvN_b h9]]
      refine va_last hx hb hK hR.1 wsO_D hS a 1 hcell rfl hi hd (fun H1 locs1 q1 q2 q3 => ?_)
      have e3 := wsO_set (dA := dA) (b := b) (sb := sb) (hp := hp) (k := a) (.inl (1, n, .inr (.inl (vp_updL f i.toNatClampNeg x))))
      have q1' : va_P (dC, dI) vwCl ((wsO dA b sb hp).set a (b + a, cvE dA b sb (.inl (1, n, .inr (.inl (vp_updL f i.toNatClampNeg x)))))) H1 := q1
      rw [e3] at q1'
      exact kk _ (hnx rfl) ls H1 locs1 hl (hR.put ha (fun n x h => by cases h) (scr_kept hz hsb hS q3) q1') q3
    · cases hs
  | bastore =>
    simp only [tr, Option.some.injEq] at ht
    subst ht
    obtain rfl : len = 1 := by simpa [isSw, ilen] using hlen
    simp only [stp] at hs
    split at hs
    · rename_i x i a st0
      simp only [Option.map_eq_some_iff] at hs
      obtain ⟨v, hg, hs⟩ := hs
      simp only [Sum.inl.injEq, Prod.mk.injEq] at hs
      obtain ⟨rfl, rfl, rfl, rfl⟩ := hs
      obtain ⟨n, f, he, hi, hx01, rfl⟩ := stZ_inv hg
      obtain ⟨ha, h9⟩ := hR.arr he (by decide)
      have hcell := wsO_get (dA := dA) (b := b) (sb := sb) ha
      rw [show hp.2.2 a = f_get hp a from rfl, he] at hcell
      rw [List.map_cons, List.map_cons, List.map_cons, show cv b sb (.ref a) = .ref (b + a) by simp [cv, cvN_b h9]]
      have hnar : vp_nar .boolean x = x := by rcases hx01 with rfl | rfl <;> decide +kernel
      refine va_zast hx hb hK hR.1 wsO_D hS a 2 hcell rfl hi hd (fun H1 locs1 q1 q2 q3 => ?_)
      rw [hnar] at q1
      have e3 := wsO_set (dA := dA) (b := b) (sb := sb) (hp := hp) (k := a) (.inl (2, n, .inl (upd f i.toNatClampNeg x)))
      have q1' : va_P (dC, dI) vwCl ((wsO dA b sb hp).set a (b + a, cvE dA b sb (.inl (2, n, .inl (upd f i.toNatClampNeg x))))) H1 := q1
      rw [e3] at q1'
      exact kk _ (hnx rfl) ls H1 locs1 hl (hR.put ha (fun n x h => by cases h) (scr_kept hz hsb hS q3) q1') q3
    · cases hs
  | aastore =>
    simp only [tr, Option.some.injEq] at ht
    subst ht
    obtain rfl : len = 1 := by simpa [isSw, ilen] using hlen
    simp only [stp] at hs
    split at hs
    · rename_i x i a st0
      split at hs
      · rename_i hO
        simp only [Option.map_eq_some_iff] at hs
        obtain ⟨v, hg, hs⟩ := hs
        simp only [Sum.inl.injEq, Prod.mk.injEq] at hs
        obtain ⟨rfl, rfl, rfl, rfl⟩ := hs
        obtain ⟨n, f, he, hi, rfl⟩ := stQ_inv hg
        obtain ⟨ha, h9⟩ := hR.arr he (by decide)
        obtain ⟨fs, hO⟩ := isO_inv hO
        obtain ⟨hxa, hx9⟩ := hR.obj hO (by decide)
        have hcell := wsO_get (dA := dA) (b := b) (sb := sb) ha
        rw [show hp.2.2 a = f_get hp a from rfl, he] at hcell
        have hcx := wsO_get (dA := dA) (b := b) (sb := sb) hxa
        rw [show hp.2.2 x = f_get hp x from rfl, hO] at hcx
        rw [List.map_cons, List.map_cons, List.map_cons, show cv b sb (.ref a) = .ref (b + a) by simp [cv, cvN_b h9], show cv b sb (.ref x) = .ref (b + x) by simp [cv, cvN_b hx9]]
        refine va_astq hx hb hK hR.1 wsO_D hS a 3 x 2 (r := (RX2, TX2, 3)) hcell rfl hcx rfl hi hd (fun H1 locs1 q1 q2 q3 => ?_)
        have e3 := wsO_set (dA := dA) (b := b) (sb := sb) (hp := hp) (k := a) (.inl (3, n, .inr (.inr (.inr (.inr (va_up f i.toNatClampNeg (some x)))))))
        have e4 : (fun j => (va_up f i.toNatClampNeg (some x) j).map (cvN b sb)) = va_up (fun j => (f j).map (cvN b sb)) i.toNatClampNeg (some (b + x)) := by
          funext j
          by_cases hj : j = i.toNatClampNeg <;> simp [va_up, hj, cvN_b hx9]
        simp only [cvE, cvA, e4] at e3
        rw [e3] at q1
        exact kk _ (hnx rfl) ls H1 locs1 hl (hR.put ha (fun n x h => by cases h) (scr_kept hz hsb hS q3) q1) q3
      · cases hs
    · cases hs
  | new x =>
    simp only [tr, Option.map_eq_some_iff] at ht
    obtain ⟨n, hn, rfl⟩ := ht
    obtain rfl : len = 3 := by simpa [isSw, ilen] using hlen
    obtain ⟨C, T, N, hv, w1, w2, w3⟩ := new_ok hn
    obtain ⟨hin, hty, hnm, h7⟩ := cls_ok hv
    simp only [stp, Option.map_eq_some_iff] at hs
    obtain ⟨e2, hg, hs⟩ := hs
    simp only [Sum.inl.injEq, Prod.mk.injEq] at hs
    obtain ⟨rfl, rfl, rfl, rfl⟩ := hs
    have e0 : (f_new hp e2.1 e2.2).1 = hp.1 + 1 := rfl
    have e1 : (f_new hp e2.1 e2.2).2.1 = hp.2.1 + e2.1 := rfl
    have hKn := hK.1 n _ hv
    obtain ⟨N2, e3⟩ := e2
    have hfs : N2 = N ∧ ∃ fs, e3 = .inr (n, fs) ∧ ∀ j, j < N → defaultValue (tyL n j) = vp_V (fs.map (cv b sb)) j := new_def hv hg
    obtain ⟨rfl, fs, rfl, hdef⟩ := hfs
    refine W.sz (fun hu => ?_)
    have hsz := RH.size hR hS hz hn0 hu
    refine W.newcK hx hb hown (hts _ w1) (hts _ w2) (hts _ w3) rfl hd (by rw [e0] at hRc; omega) (by rw [e1] at hRs; omega) hKn.2.1 hsz fun H1 kC hkC q1 z1 o1 => ?_
    have hS1 : va_S (fun q => b ≤ q) s.heap H1 locs := ⟨by omega, fun q h1 h2 => (o1 q (by have := hS.1; omega)).trans (hS.2.1 q h1 h2), hS.2.2⟩
    have hP1 : va_P (dC, dI) vwCl (wsO dA b sb (f_new hp N2 (.inr (n, fs)))) H1 := by
      rw [wsO_new]
      refine va_P.app (hR.1.kept (fun k q hq => ?_)) (fun k q hq => ?_)
      · obtain ⟨hk, rfl⟩ := wsO_at hq
        exact o1 _ (by dsimp only; omega)
      · have hz1 : k < 1 := (List.getElem?_eq_some_iff.mp hq).1
        rw [show k = 0 by omega] at hq
        cases hq
        exact ⟨_, hv, (u_born (tyL n) hts hin hKn hkC q1 hty).to hdef⟩
    have hk2 := kk _ (hnx rfl) ls H1 locs hl (hR.new (by omega) (fun n x h => by cases h) (scr_kept hz hsb hS hS1) hP1) hS1
    rw [e0, e1, List.map_cons, show cv b sb (.ref hp.1) = .ref (b + hp.1) by simp [cv, cvN_b (show hp.1 ≠ SL by omega)], show hp.1 + 1 - n0 = hp.1 - n0 + 1 by omega, show hp.2.1 + N2 - s0 = hp.2.1 - s0 + N2 by omega] at hk2
    exact hk2
  | newarray t =>
    simp only [tr, Option.some.injEq] at ht
    subst ht
    obtain rfl : len = 2 := by simpa [isSw, ilen] using hlen
    simp only [stp] at hs
    split at hs
    · rename_i n st0
      simp only [Option.map_eq_some_iff] at hs
      obtain ⟨e2, hg, hs⟩ := hs
      simp only [Sum.inl.injEq, Prod.mk.injEq] at hs
      obtain ⟨rfl, rfl, rfl, rfl⟩ := hs
      have e0 : (f_new hp n.toNatClampNeg e2).1 = hp.1 + 1 := rfl
      have e1 : (f_new hp n.toNatClampNeg e2).2.1 = hp.2.1 + n.toNatClampNeg := rfl
      obtain ⟨hn, hN, k, ty, a0, rfl, hty, hw, hk9, hcell, htb, hbytes, hcv⟩ := newA_inv (b := b) (sb := sb) hg
      refine W.sz (fun hu => ?_)
      have hsz := RH.size hR hS hz hn0 hu
      refine va_newaK hx hb (hts _ hw) rfl hd rfl hn rfl (by rw [hty]; exact hbytes) (by rw [e0] at hRc; omega) (by rw [e1] at hRs; omega) hsz fun H1 cA q1 z1 o1 hAr hNm => ?_
      have hcA : cA = dA k := by
        obtain ⟨g1, g2⟩ := hK.2 k (dA k, ty) (htb dA)
        rw [hty] at hNm
        have g3 : s.vm.findClass ("[" ++ ty.toString) = some (dA k) := by
          rcases hk9 with ⟨rfl, rfl⟩ | ⟨rfl, rfl⟩ | ⟨rfl, rfl⟩ <;> exact g2
        exact Option.some.inj (hNm.symm.trans g3)
      subst hcA
      have hS1 : va_S (fun q => b ≤ q) s.heap H1 locs := ⟨by have := hS.1; omega, fun q h1 h2 => (o1 q (by have := hS.1; omega)).trans (hS.2.1 q h1 h2), hS.2.2⟩
      have hP1 : va_P (dC, dI) vwCl (wsO dA b sb (f_new hp n.toNatClampNeg (.inl (k, a0)))) H1 := by
        rw [wsO_new]
        refine va_P.app (hR.1.kept (fun k q hq => ?_)) (fun k2 q hq => ?_)
        · obtain ⟨hk, rfl⟩ := wsO_at hq
          exact o1 _ (by dsimp only; omega)
        · have hz1 : k2 < 1 := (List.getElem?_eq_some_iff.mp hq).1
          rw [show k2 = 0 by omega] at hq
          cases hq
          show H1[b + hp.1]? = some (vp_cell (dA k) (cvA b sb a0))
          rw [hcv, hcell (dA k), q1, hty]
      have hk2 := kk _ (hnx rfl) ls H1 locs hl (hR.new (by omega) (fun n x h => by cases h; rcases hk9 with ⟨q, -⟩ | ⟨q, -⟩ | ⟨q, -⟩ <;> cases q) (scr_kept hz hsb hS hS1) hP1) hS1
      rw [e0, e1, List.map_cons, show cv b sb (.ref hp.1) = .ref (b + hp.1) by simp [cv, cvN_b (show hp.1 ≠ SL by omega)], show hp.1 + 1 - n0 = hp.1 - n0 + 1 by omega, show hp.2.1 + n.toNatClampNeg - s0 = hp.2.1 - s0 + n.toNatClampNeg by omega] at hk2
      exact hk2
    · cases hs
  | anewarray x =>
    simp only [tr, Option.bind_eq_some_iff] at ht
    obtain ⟨n2, hn2, ht⟩ := ht
    split at ht
    · rename_i h2; subst h2
      cases ht
      obtain rfl : len = 3 := by simpa [isSw, ilen] using hlen
      obtain ⟨C, T, N, hv, w1, w2, w3⟩ := new_ok hn2
      cases hv
      simp only [stp] at hs
      split at hs
      · rename_i n st0
        split at hs
        · cases hs
        · rename_i hn
          simp only [Option.some.injEq, Sum.inl.injEq, Prod.mk.injEq] at hs
          obtain ⟨rfl, rfl, rfl, rfl⟩ := hs
          have e0 : (f_new hp n.toNatClampNeg (.inl (3, n.toNatClampNeg, .inr (.inr (.inr (.inr (fun _ => none))))))).1 = hp.1 + 1 := rfl
          have e1 : (f_new hp n.toNatClampNeg (.inl (3, n.toNatClampNeg, .inr (.inr (.inr (.inr (fun _ => none))))))).2.1 = hp.2.1 + n.toNatClampNeg := rfl
          refine W.sz (fun hu => ?_)
          have hsz := RH.size hR hS hz hn0 hu
          refine W.anew hx hb hown (hts _ w1) (va_AO.use hAO) rfl hd rfl (fun q => hn (Or.inl q)) (by omega) (by rw [e0] at hRc; omega) (by rw [e1] at hRs; omega) fun cA kA comp f1 f2 f3 f4 => ?_
          have hcA : cA = dA 3 := by
            obtain ⟨g1, kA2, comp2, g2, g3, g4, g5⟩ := hK.2 3 (dA 3, .object RX2) rfl
            exact Option.some.inj (f1.symm.trans g5)
          subst hcA
          rw [hsz]
          generalize hH1 : H.push ({ cls := dA 3, slots := Array.replicate n.toNatClampNeg .null, vm := .none } : Cell) = H1
          have z1 : H1.size = H.size + 1 := by rw [← hH1, Array.size_push]
          have q1 : H1[b + hp.1]? = some (arrV (dA 3) n.toNatClampNeg (fun _ => .null)) := by rw [← hsz, ← hH1, Array.getElem?_push_size, ← arrV_new]
          have o1 : ∀ q : Nat, q < H.size → H1[q]? = H[q]? := fun q hq => by rw [← hH1, Array.getElem?_push, if_neg (Nat.ne_of_lt hq)]
          have hS1 : va_S (fun q => b ≤ q) s.heap H1 locs := ⟨by have := hS.1; omega, fun q h1 h2 => (o1 q (by have := hS.1; omega)).trans (hS.2.1 q h1 h2), hS.2.2⟩
          have hP1 : va_P (dC, dI) vwCl (wsO dA b sb (f_new hp n.toNatClampNeg (.inl (3, n.toNatClampNeg, .inr (.inr (.inr (.inr (fun _ => none)))))))) H1 := by
            rw [wsO_new]
            refine va_P.app (hR.1.kept (fun k q hq => ?_)) (fun k2 q hq => ?_)
            · obtain ⟨hk, rfl⟩ := wsO_at hq
              exact o1 _ (by dsimp only; omega)
            · have hz1 : k2 < 1 := (List.getElem?_eq_some_iff.mp hq).1
              rw [show k2 = 0 by omega] at hq
              cases hq
              exact q1
          have hk2 := kk _ (hnx rfl) ls H1 locs hl (hR.new (by omega) (fun n x h => by cases h) (scr_kept hz hsb hS hS1) hP1) hS1
          rw [e0, e1, List.map_cons, show cv b sb (.ref hp.1) = .ref (b + hp.1) by simp [cv, cvN_b (show hp.1 ≠ SL by omega)], show hp.1 + 1 - n0 = hp.1 - n0 + 1 by omega, show hp.2.1 + n.toNatClampNeg - s0 = hp.2.1 - s0 + n.toNatClampNeg by omega] at hk2
          exact hk2
      · cases hs
    · cases ht
  | invokespecial x =>
    simp only [tr, Option.bind_eq_some_iff] at ht
    obtain ⟨q, hq, ht⟩ := ht
    split at ht
    · cases ht; simp only [stp] at hs; split at hs <;> cases hs
    · split at ht
      · rename_i h5
        cases ht
        obtain rfl : len = 3 := by simpa [isSw, ilen] using hlen
        have hw := mt_all _ (lk_mem hq)
        obtain ⟨k, na, kd⟩ := q
        dsimp only at h5
        subst h5
        simp only [stp] at hs
        split at hs
        · rename_i a st0
          split at hs
          · rename_i hl4
            simp only [Option.some.injEq, Sum.inl.injEq, Prod.mk.injEq] at hs
            obtain ⟨rfl, rfl, rfl, rfl⟩ := hs
            have hrm2 : 1 ≤ rkT.getD mid 0 ∧ 20 ≤ lrT.getD mid 0 := by simpa [cRm] using hrm
            refine W.objInit hx hb hown (hts _ hw) (hts _ ob_1) (hts _ ob_2) rfl (by rw [hml]; exact hl.2.1) rfl hd (by omega) ?_ (kk _ (hnx rfl) ls H locs hl hR hS)
            have hsum := cat_sum b sb st0
            show 2 * 0 + _ + 12 ≤ R.locals
            omega
          · cases hs
        · cases hs
      · cases ht
  | invokevirtual x =>
    simp only [tr, Option.bind_eq_some_iff] at ht
    obtain ⟨q, hq, ht⟩ := ht
    split at ht
    · cases ht; simp only [stp] at hs; split at hs <;> cases hs
    · cases ht
  | invokestatic x =>
    simp only [tr, Option.bind_eq_some_iff] at ht
    obtain ⟨q, hq, ht⟩ := ht
    split at ht
    · cases ht; simp only [stp] at hs; split at hs <;> cases hs
    · split at ht
      · rename_i h6
        cases ht
        obtain rfl : len = 3 := by simpa [isSw, ilen] using hlen
        have hw := mt_all _ (lk_mem hq)
        obtain ⟨k, na, kd⟩ := q
        dsimp only at h6
        subst h6
        simp only [stp] at hs
        split at hs
        · rename_i st0
          split at hs
          · rename_i hl4
            simp only [Option.some.injEq, Sum.inl.injEq, Prod.mk.injEq] at hs
            obtain ⟨rfl, rfl, rfl, rfl⟩ := hs
            have hrm2 : 1 ≤ rkT.getD mid 0 ∧ 20 ≤ lrT.getD mid 0 := by simpa [cRm] using hrm
            have hsum := cat_sum b sb st0
            exact va_mabs hx hb (by rw [hml]; exact hl.2.1.symm) hown (hts _ hw.1) (hts _ hw.2.1) (hts _ mw_0) (hts _ hw.2.2) (by omega) (by omega) hRc hRs hd (kk _ (hnx rfl) ls H locs hl hR hS)
          · cases hs
        · cases hs
      · split at ht
        · rename_i h7
          cases ht
          obtain rfl : len = 3 := by simpa [isSw, ilen] using hlen
          have hw := mt_all _ (lk_mem hq)
          obtain ⟨k, na, kd⟩ := q
          dsimp only at h7
          subst h7
          simp only [stp] at hs
          split at hs
          · rename_i st0
            split at hs
            · rename_i hl4
              simp only [Option.some.injEq, Sum.inl.injEq, Prod.mk.injEq] at hs
              obtain ⟨rfl, rfl, rfl, rfl⟩ := hs
              have hrm2 : 1 ≤ rkT.getD mid 0 ∧ 20 ≤ lrT.getD mid 0 := by simpa [cRm] using hrm
              have hsum := cat_sum b sb st0
              exact va_mmax hx hb (by rw [hml]; exact hl.2.1.symm) hown (hts _ hw.1) (hts _ hw.2.1) (hts _ mw_0) (hts _ hw.2.2) (by omega) (by omega) hRc hRs hd (kk _ (hnx rfl) ls H locs hl hR hS)
            · cases hs
          · cases hs
        · split at ht
          · rename_i h8
            cases ht
            obtain rfl : len = 3 := by simpa [isSw, ilen] using hlen
            have hw := mt_all _ (lk_mem hq)
            obtain ⟨k, na, kd⟩ := q
            dsimp only at h8
            subst h8
            simp only [stp] at hs
            split at hs
            · rename_i st0
              split at hs
              · rename_i hl4
                simp only [Option.some.injEq, Sum.inl.injEq, Prod.mk.injEq] at hs
                obtain ⟨rfl, rfl, rfl, rfl⟩ := hs
                have hrm2 : 1 ≤ rkT.getD mid 0 ∧ 20 ≤ lrT.getD mid 0 := by simpa [cRm] using hrm
                have hsum := cat_sum b sb st0
                exact va_mmin hx hb (by rw [hml]; exact hl.2.1.symm) hown (hts _ hw.1) (hts _ hw.2.1) (hts _ mw_0) (hts _ hw.2.2) (by omega) (by omega) hRc hRs hd (kk _ (hnx rfl) ls H locs hl hR hS)
              · cases hs
            · cases hs
          · cases ht
  | ireturn =>
    simp only [tr, Option.some.injEq] at ht
    subst ht
    split at hs
    · simp only [stp] at hs
      split at hs
      · split at hs <;> cases hs
      · cases hs
    · simp only [stp] at hs
      split at hs <;> cases hs
  | lreturn =>
    simp only [tr, Option.some.injEq] at ht
    subst ht
    simp only [stp] at hs
    split at hs <;> cases hs
  | return_ =>
    simp only [tr, Option.some.injEq] at ht
    subst ht
    simp only [stp] at hs
    split at hs <;> cases hs
  | _ => simp [tr] at ht
end SND
