/-! Calls, returns, and the whole of a run. -/
theorem NW.same {u U : State} (h : u.vm = U.vm) (hN : NW u) : NW U := fun q hq hk => va_Nw.same rfl h (hN q hq hk)
theorem NW.warm {s U : State} (hW : s.WarmedH U.vm) (hN : NW s) : NW U := fun q hq hk => va_Nw.warmM hW (hN q hq hk)
theorem lvA_ent {b sb : Nat} : ∀ (as : List Value) (j m : Nat) (q : Nat × Value), q ∈ lvA b sb j (entL as ++ List.replicate m jk) → q ∈ lv_args j (as.map (cv b sb))
  | [], j, m, q, h => by
    exfalso
    obtain ⟨i, v, h1, h2, -⟩ := lvA_inv _ _ _ h
    simp only [entL, List.nil_append, List.getElem?_replicate] at h1
    split at h1
    · cases h1; simp [isJk, jk] at h2
    · cases h1
  | v :: t, j, m, q, h => by
    rw [List.map_cons, lv_args]
    rw [entL] at h
    by_cases hv : isL v = true
    · have hc : (cv b sb v).category = 2 := by cases v <;> simp [isL] at hv <;> rfl
      have hj : isJk v = false := by cases v <;> simp [isL] at hv <;> rfl
      rw [if_pos hv] at h
      simp only [List.cons_append, lvA, hj, Bool.false_eq_true, if_false] at h
      rw [if_pos (show isJk jk = true from rfl)] at h
      rw [if_pos hc]
      rcases List.mem_cons.mp h with h | h
      · exact List.mem_cons.mpr (Or.inl h)
      · exact List.mem_cons.mpr (Or.inr (lvA_ent t (j + 2) m q h))
    · have hc : ¬ (cv b sb v).category = 2 := fun q => hv (cv_cat b sb v q)
      rw [if_neg hv] at h
      simp only [List.cons_append, lvA] at h
      rw [if_neg hc]
      split at h
      · exact List.mem_cons.mpr (Or.inr (lvA_ent t (j + 1) m q h))
      · rcases List.mem_cons.mp h with h | h
        · exact List.mem_cons.mpr (Or.inl h)
        · exact List.mem_cons.mpr (Or.inr (lvA_ent t (j + 1) m q h))
theorem entL_len (b sb : Nat) : ∀ as : List Value, (lg_sl (as.map (cv b sb))).length = (entL as).length
  | [] => rfl
  | v :: t => by
    have h := entL_len b sb t
    simp only [lg_sl] at h
    by_cases hv : isL v = true
    · have hc : (cv b sb v).category = 2 := by cases v <;> simp [isL] at hv <;> rfl
      simp only [List.map_cons, lg_sl, List.flatMap_cons, entL, if_pos hv, if_pos hc, List.length_append, List.length_cons, List.length_nil, h]
      omega
    · have hc : ¬ (cv b sb v).category = 2 := fun q => hv (cv_cat b sb v q)
      simp only [List.map_cons, lg_sl, List.flatMap_cons, entL, if_neg hv, if_neg hc, List.length_append, List.length_cons, List.length_nil, h]
      omega
theorem stp_call {mid : Nat} {ins : Instr} {is : List Instr} {lv st : List Value} {hp : fH} {k : Nat} {as rest : List Value} (h : stp mid ins is lv st hp = some (.inr (.inl (k, as, rest)))) : ∃ n, ins = .invokeinterface k n ∧ n ≤ st.length ∧ rest.length ≤ 4 ∧ as = (st.take n).reverse ∧ rest = st.drop n := by
  cases ins with
  | invokeinterface k2 n =>
    simp only [stp] at h
    split at h
    · rename_i hc
      cases h
      exact ⟨n, rfl, hc.1, hc.2, rfl, rfl⟩
    · cases h
  | _ => exfalso; simp only [stp] at h; (repeat' split at h) <;> first | (cases h; done) | (simp at h; done)
/-- how a method ends -/
def RetOK (mid pc : Nat) (v : Option Value) : Prop := match rtT.getD mid 9 with
  | 0 => decode (cM mid) pc = .ok (.return_, 1) ∧ v = none
  | 1 => decode (cM mid) pc = .ok (.ireturn, 1) ∧ ∃ x, v = some (.int x)
  | 2 => decode (cM mid) pc = .ok (.ireturn, 1) ∧ (v = some (.int 0) ∨ v = some (.int 1))
  | _ => decode (cM mid) pc = .ok (.lreturn, 1) ∧ ∃ x, v = some (.long x)
theorem stp_ret {mid : Nat} {ins : Instr} {is : List Instr} {lv st : List Value} {hp : fH} {v : Option Value} (h : stp mid ins is lv st hp = some (.inr (.inr v))) : st = v.toList ∧ ((ins = .ireturn ∧ ∃ x, v = some (.int x)) ∨ (ins = .freturn ∧ (v = some (.int 0) ∨ v = some (.int 1))) ∨ (ins = .lreturn ∧ ∃ x, v = some (.long x)) ∨ (ins = .return_ ∧ v = none)) := by
  cases ins with
  | ireturn =>
    simp only [stp] at h
    split at h
    · cases h; exact ⟨rfl, Or.inl ⟨rfl, _, rfl⟩⟩
    · cases h
  | freturn =>
    simp only [stp] at h
    split at h
    · split at h
      · rename_i hx
        cases h
        refine ⟨rfl, Or.inr (Or.inl ⟨rfl, ?_⟩)⟩
        rcases hx with rfl | rfl
        · exact Or.inl rfl
        · exact Or.inr rfl
      · cases h
    · cases h
  | lreturn =>
    simp only [stp] at h
    split at h
    · cases h; exact ⟨rfl, Or.inr (Or.inr (Or.inl ⟨rfl, _, rfl⟩))⟩
    · cases h
  | return_ =>
    simp only [stp] at h
    split at h
    · cases h; exact ⟨rfl, Or.inr (Or.inr (Or.inr ⟨rfl, rfl⟩))⟩
    · cases h
  | _ => exfalso; simp only [stp] at h; (repeat' split at h) <;> first | (cases h; done) | (simp at h; done)
theorem stp_grow {mid : Nat} {ins : Instr} {is : List Instr} {lv st : List Value} {hp : fH} {is' : List Instr} {lv' st' : List Value} {hp' : fH} (h : stp mid ins is lv st hp = some (.inl (is', lv', st', hp'))) : hp.1 ≤ hp'.1 ∧ hp.2.1 ≤ hp'.2.1 := by
  cases ins <;> simp only [stp] at h <;> (repeat' split at h) <;> first
    | (cases h; done)
    | (simp only [Option.some.injEq, Sum.inl.injEq, Prod.mk.injEq] at h; obtain ⟨-, -, -, rfl⟩ := h; exact ⟨Nat.le_refl _, Nat.le_refl _⟩)
    | (simp only [Option.some.injEq, Sum.inl.injEq, Prod.mk.injEq] at h; obtain ⟨-, -, -, rfl⟩ := h; exact ⟨Nat.le_succ _, Nat.le_add_right _ _⟩)
    | (simp only [Option.map_eq_some_iff, Sum.inl.injEq, Prod.mk.injEq] at h; obtain ⟨_, -, -, -, -, rfl⟩ := h; exact ⟨Nat.le_refl _, Nat.le_refl _⟩)
    | (simp only [Option.map_eq_some_iff, Sum.inl.injEq, Prod.mk.injEq] at h; obtain ⟨_, -, -, -, -, rfl⟩ := h; exact ⟨Nat.le_succ _, Nat.le_add_right _ _⟩)
theorem run_grow : ∀ (n mid : Nat) (is : List Instr) (lv st : List Value) (hp : fH) (v : Option Value) (hp' : fH), run n mid is lv st hp = some (v, hp') → hp.1 ≤ hp'.1 ∧ hp.2.1 ≤ hp'.2.1 := by
  intro n
  induction n with
  | zero => intro mid is lv st hp v hp' h; simp [run] at h
  | succ n ih =>
    intro mid is lv st hp v hp' h
    cases is with
    | nil => simp [run] at h
    | cons ins is =>
      rw [run] at h
      split at h
      · cases h
      · rename_i is1 lv1 st1 hp1 hs
        have h1 := stp_grow hs
        have h2 := ih _ _ _ _ _ _ _ h
        exact ⟨Nat.le_trans h1.1 h2.1, Nat.le_trans h1.2 h2.2⟩
      · split at h
        · split at h
          · cases h
          · rename_i v1 hp1 he
            have h1 := ih _ _ _ _ _ _ _ he
            have h2 := ih _ _ _ _ _ _ _ h
            exact ⟨Nat.le_trans h1.1 h2.1, Nat.le_trans h1.2 h2.2⟩
        · cases h
      · cases h; exact ⟨Nat.le_refl _, Nat.le_refl _⟩
theorem ent0_all : (List.range 189).all (fun k => (pcsT.getD k []).contains 0 && decide (rtT.getD k 9 = rtT.getD k 0)) = true := by decide +kernel
theorem ent0 {k : Nat} (hk : k < 186) : 0 ∈ pcsT.getD k [] := by
  have h := List.all_eq_true.mp ent0_all k (List.mem_range.mpr (by omega))
  rw [Bool.and_eq_true] at h
  exact List.contains_iff_mem.mp h.1
theorem rt_def {k : Nat} (hk : k < 189) : rtT.getD k 9 = rtT.getD k 0 := by
  have h := List.all_eq_true.mp ent0_all k (List.mem_range.mpr hk)
  rw [Bool.and_eq_true] at h
  exact of_decide_eq_true h.2
theorem dflt_all : (List.range 189).all (fun k => decide (rkT.getD k 99 = rkT.getD k 0) && decide (mlT.getD k 99 = mlT.getD k 0) && decide (lrT.getD k 999 = lrT.getD k 0)) = true := by decide +kernel
theorem dflt {k : Nat} (hk : k < 186) : rkT.getD k 99 = rkT.getD k 0 ∧ mlT.getD k 99 = mlT.getD k 0 ∧ lrT.getD k 999 = lrT.getD k 0 := by
  have h := List.all_eq_true.mp dflt_all k (List.mem_range.mpr (by omega))
  simp only [Bool.and_eq_true, decide_eq_true_eq] at h
  exact ⟨h.1.1, h.1.2, h.2⟩
theorem cl7_all : (List.range 189).all (fun k => decide (kdT.getD k 0 = 0) || decide (clT.getD k 99 < 7)) = true := by decide +kernel
theorem cl7 {k : Nat} (hk : k < 186) (h : kdT.getD k 0 = 1) : clT.getD k 99 < 7 := by
  have h1 := List.all_eq_true.mp cl7_all k (List.mem_range.mpr (by omega))
  simp only [Bool.or_eq_true, decide_eq_true_eq] at h1
  exact h1.resolve_left (by omega)
theorem cl7' {k : Nat} (hk : k < 186) (h : kdT.getD k 0 = 2) : clT.getD k 99 < 7 := by
  have h1 := List.all_eq_true.mp cl7_all k (List.mem_range.mpr (by omega))
  simp only [Bool.or_eq_true, decide_eq_true_eq] at h1
  exact h1.resolve_left (by omega)
theorem vw_own : ∀ {ci : Nat}, ci < 7 → ∃ C T N, vwCl[ci]? = some (C, T, N) ∧ C = ownS ci
  | 0, _ => ⟨_, _, _, rfl, rfl⟩
  | 1, _ => ⟨_, _, _, rfl, rfl⟩
  | 2, _ => ⟨_, _, _, rfl, rfl⟩
  | 3, _ => ⟨_, _, _, rfl, rfl⟩
  | 4, _ => ⟨_, _, _, rfl, rfl⟩
  | 5, _ => ⟨_, _, _, rfl, rfl⟩
  | 6, _ => ⟨_, _, _, rfl, rfl⟩
  | k + 7, h => absurd h (by omega)
theorem tr_call {cn pc k na : Nat} {z : Bool} {r : Instr} (h : tr cn z pc r = some (.invokeinterface k na)) : ∃ x kd, (r = .invokestatic x ∨ r = .invokevirtual x ∨ r = .invokespecial x) ∧ lk mtL cn x = some (k, na, kd) ∧ ((r = .invokestatic x ∧ (kd = 0 ∨ kd = 3)) ∨ (r = .invokevirtual x ∧ kd = 1) ∨ (r = .invokespecial x ∧ (kd = 2 ∨ kd = 4))) := by
  cases r with
  | invokestatic x =>
    simp only [tr, Option.bind_eq_some_iff] at h
    obtain ⟨⟨k2, n2, kd⟩, h1, h2⟩ := h
    (repeat' split at h2) <;> first | (cases h2; done) | skip
    rename_i hq
    cases h2
    exact ⟨x, kd, Or.inl rfl, h1, Or.inl ⟨rfl, hq⟩⟩
  | invokevirtual x =>
    simp only [tr, Option.bind_eq_some_iff] at h
    obtain ⟨⟨k2, n2, kd⟩, h1, h2⟩ := h
    split at h2
    · rename_i hq
      cases h2
      exact ⟨x, kd, Or.inr (Or.inl rfl), h1, Or.inr (Or.inl ⟨rfl, hq⟩)⟩
    · cases h2
  | invokespecial x =>
    simp only [tr, Option.bind_eq_some_iff] at h
    obtain ⟨⟨k2, n2, kd⟩, h1, h2⟩ := h
    (repeat' split at h2) <;> first | (cases h2; done) | skip
    rename_i hq
    cases h2
    exact ⟨x, kd, Or.inr (Or.inr rfl), h1, Or.inr (Or.inr ⟨rfl, hq⟩)⟩
  | _ => simp only [tr, jmp, Option.map_eq_some_iff, Option.bind_eq_some_iff] at h <;> first | (cases h; done) | (simp at h; done) | (split at h <;> simp at h; done) | (obtain ⟨_, _, h⟩ := h; cases h; done) | (obtain ⟨_, _, h⟩ := h; split at h <;> cases h; done)
theorem ret_ok {mid pc len : Nat} {r ins : Instr} {v : Option Value} (hm : mid < 186) (hd : decode (cM mid) pc = .ok (r, len)) (ht : tr (clT.getD mid 99) (rtT.getD mid 0 == 2) pc r = some ins) (hlen : isSw r = true ∨ len = ilen r) (hcr : cRm mid ins = true)
    (h : (ins = .ireturn ∧ ∃ x, v = some (.int x)) ∨ (ins = .freturn ∧ (v = some (.int 0) ∨ v = some (.int 1))) ∨ (ins = .lreturn ∧ ∃ x, v = some (.long x)) ∨ (ins = .return_ ∧ v = none)) : RetOK mid pc v := by
  have hr : (ins = .ireturn ∨ ins = .freturn → r = .ireturn) ∧ (ins = .lreturn → r = .lreturn) ∧ (ins = .return_ → r = .return_) := by
    cases r with
    | ireturn => simp only [tr, Option.some.injEq] at ht; refine ⟨fun _ => rfl, fun q => ?_, fun q => ?_⟩ <;> (subst q; split at ht <;> cases ht)
    | lreturn => simp only [tr, Option.some.injEq] at ht; subst ht; exact ⟨fun q => (by rcases q with q | q <;> cases q), fun _ => rfl, fun q => (by cases q)⟩
    | return_ => simp only [tr, Option.some.injEq] at ht; subst ht; exact ⟨fun q => (by rcases q with q | q <;> cases q), fun q => (by cases q), fun _ => rfl⟩
    | _ =>
      refine ⟨fun q => ?_, fun q => ?_, fun q => ?_⟩
      · rcases q with rfl | rfl <;> (simp only [tr, jmp, Option.map_eq_some_iff, Option.bind_eq_some_iff] at ht <;> first | (cases ht; done) | (simp at ht; done) | (split at ht <;> simp at ht; done) | (obtain ⟨_, _, ht⟩ := ht; cases ht; done) | (obtain ⟨_, _, ht⟩ := ht; (repeat' split at ht) <;> cases ht; done))
      · subst q; (simp only [tr, jmp, Option.map_eq_some_iff, Option.bind_eq_some_iff] at ht <;> first | (cases ht; done) | (simp at ht; done) | (split at ht <;> simp at ht; done) | (obtain ⟨_, _, ht⟩ := ht; cases ht; done) | (obtain ⟨_, _, ht⟩ := ht; (repeat' split at ht) <;> cases ht; done))
      · subst q; (simp only [tr, jmp, Option.map_eq_some_iff, Option.bind_eq_some_iff] at ht <;> first | (cases ht; done) | (simp at ht; done) | (split at ht <;> simp at ht; done) | (obtain ⟨_, _, ht⟩ := ht; cases ht; done) | (obtain ⟨_, _, ht⟩ := ht; (repeat' split at ht) <;> cases ht; done))
  unfold RetOK
  rcases h with ⟨rfl, hv⟩ | ⟨rfl, hv⟩ | ⟨rfl, hv⟩ | ⟨rfl, hv⟩
  · have h1 : rtT.getD mid 9 = 1 := by simpa [cRm] using hcr
    rw [h1]
    obtain rfl := hr.1 (Or.inl rfl)
    obtain rfl : len = 1 := by simpa [isSw, ilen] using hlen
    exact ⟨hd, hv⟩
  · have h1 : rtT.getD mid 9 = 2 := by simpa [cRm] using hcr
    rw [h1]
    obtain rfl := hr.1 (Or.inr rfl)
    obtain rfl : len = 1 := by simpa [isSw, ilen] using hlen
    exact ⟨hd, hv⟩
  · have h1 : rtT.getD mid 9 = 3 := by simpa [cRm] using hcr
    rw [h1]
    obtain rfl := hr.2.1 rfl
    obtain rfl : len = 1 := by simpa [isSw, ilen] using hlen
    exact ⟨hd, hv⟩
  · have h1 : rtT.getD mid 9 = 0 := by simpa [cRm] using hcr
    rw [h1]
    obtain rfl := hr.2.2 rfl
    obtain rfl : len = 1 := by simpa [isSw, ilen] using hlen
    exact ⟨hd, hv⟩
section CALL
variable {p : Program} {l : Launch} {e : Env} {R : Room} {s : State} {m : MethodId} {args : Array Value} {below : List Frame} {meth : Method} {c : Code} {Qw : State → Prop} {dC : Nat → ClassId} {dI : Nat → Nat → Nat} {dA : Nat → ClassId} {b sb n0 s0 mid : Nat}
theorem call_go {H : Heap} {locs : List Loc} {cells slots mc ms pc : Nat} {ls : Array Slot} {st0 rest : List Value} {Qa : State → Outcome → State → Prop} {free : Addr → Prop} (hr : va_Run p l e R s m args below meth c H locs cells slots mc ms (F0 m pc ls st0) rest Qa free)
    (kk : ∀ (v : Option Value) (st1 t T1 : State) (L : List Loc), st1.heap = H → T1.heap = t.heap → T1.vm = t.vm → s.WarmedH T1.vm → (∀ q ∈ L, free q.base) → Qa st1 (.returned v) t → W p l e R s m args below meth c t.heap (locs ++ L) (cells + mc) (slots + ms) Qw (F0 m (pc + 3) ls (v.toList ++ rest))) : W p l e R s m args below meth c H locs cells slots Qw (F0 m pc ls st0) := by
  intro T hT X
  obtain ⟨v, st1, t, T1, L, h0, X1, hL, e1, e2, hq, st⟩ := hr T hT X
  obtain ⟨t2, a1, b1⟩ := kk v st1 t T1 L h0 e1 e2 X1.warmed hL hq T1 e1 X1
  exact ⟨t2, st t2 a1, b1⟩
/-- a method's words: its code first -/
def mWs (k : Nat) : List Cond := Cond.code (yM k) (cM k) (mlT.getD k 0) (rtF k) :: AW
/-- a method's start and end in the small machine's words -/
def mPc (dC : Nat → ClassId) (dI : Nat → Nat → Nat) (dA : Nat → ClassId) (b sb : Nat) (as : List Value) (hp : fH) : Array Value → State → Prop := fun a U => a = (as.map (cv b sb)).toArray ∧ RH dC dI dA b sb U hp U.heap ∧ va_K (dC, dI) vwCl (tysO dA) U ∧ NW U ∧ va_AO RX2 U ∧ U.heap.size = b + hp.1
def mQc (dC : Nat → ClassId) (dI : Nat → Nat → Nat) (dA : Nat → ClassId) (b sb : Nat) (v : Option Value) (hp : fH) : Array Value → State → Outcome → State → Prop := fun _ st o t => o = .returned (v.map (cv b sb)) ∧ RH dC dI dA b sb t hp t.heap ∧ va_F (fun q => b ≤ q) st t
/-- what is to be shown of a run: from any frame of the method that stands so, the real machine comes to where hend says -/
def Snd (l : Launch) (dC : Nat → ClassId) (dI : Nat → Nat → Nat) (dA : Nat → ClassId) (b sb mid : Nat) (is : List Instr) (lv st : List Value) (hp : fH) (v : Option Value) (hp' : fH) : Prop :=
  ∀ {p : Program} {e : Env} {R : Room} {s : State} {m : MethodId} {args : Array Value} {below : List Frame} {meth : Method} {c : Code} {Qw : State → Prop} {n0 s0 : Nat}, Cx p R s m args meth c dC dI dA b sb n0 mid → n0 ≤ hp.1 → s0 ≤ hp.2.1 → hp'.1 - n0 ≤ R.cells → hp'.2.1 - s0 ≤ R.slots →
    (∀ (pc : Nat) (ls : Array Slot) (H : Heap) (locs : List Loc), RetOK mid pc v → RH dC dI dA b sb s hp' H → va_S (fun q => b ≤ q) s.heap H locs → W p l e R s m args below meth c H locs (hp'.1 - n0) (hp'.2.1 - s0) Qw (F0 m pc ls (v.toList.map (cv b sb)))) →
    ∀ pc, chkB mid pc is = true → Wk p l e R s m args below meth c Qw dC dI dA b sb n0 s0 mid pc lv st hp
theorem met_of {k : Nat} (hk : k < 186) (hk2 : k ≠ 184) (hsb : sb < b) {as : List Value} {hp hp1 : fH} {v : Option Value} (hen : (entL as).length ≤ mlT.getD k 0) (ih : Snd l dC dI dA b sb k (blk k 0) (ent k as) [] hp v hp1) :
    Met l (yM k) (mWs k) ({ frames := rkT.getD k 0, cells := hp1.1 - hp.1, slots := hp1.2.1 - hp.2.1, locals := lrT.getD k 0 }) (mPc dC dI dA b sb as hp) (mQc dC dI dA b sb v hp1) (hp1.1 - hp.1) (hp1.2.1 - hp.2.1) (fun q => b ≤ q) := by
  obtain ⟨w1, w2, w3, w4, w5, w6, w7, w8⟩ := m_all hk hk2
  refine Met.ofW (cc := cM k) (maxL := mlT.getD k 0) (ret := rtF k) w3 rfl ?_
  intro p e s m args below meth c s₁ B hml hv
  obtain ⟨rfl, hR, hK, hNW, hAO, hsz⟩ := hv
  have hx := B.exec
  have hb := B.bytes
  have hr := B.returns
  have hts0 := atoms_spec (ws := mWs k) B.pre
  have hts : ∀ w ∈ AW, w.before (as.map (cv b sb)).toArray s = true := fun w hw => hts0 w (List.mem_cons_of_mem _ hw)
  have hown : s.vm.findClass (yM k).cls = some m.cls := findClass_of_methodNamed B.named
  rw [w5] at hown
  have hlocks := B.notSynchronized
  have hini : kdT.getD k 0 = 2 → meth.name = "<init>" := fun q => by
    have h1 := (name_of_methodNamed B.named B.method).1
    rw [h1]
    exact (w8 q).2.1
  have hl := lv_entry (as.map (cv b sb)) (n := mlT.getD k 0) (by rw [entL_len]; exact hen)
  rw [lg_entry_eq]
  have hLV : LV b sb (mlT.getD k 0) (ent k as) ((lg_sl (as.map (cv b sb)) ++ List.replicate (mlT.getD k 0 - (lg_sl (as.map (cv b sb))).length) Slot.unset).toArray) := by
    refine ⟨by simp only [ent, List.length_append, List.length_replicate]; omega, hl.1, hl.2.1, fun q hq => hl.2.2 q ?_⟩
    exact lvA_ent as 0 _ q hq
  have hck : chkB k 0 (blk k 0) = true := by
    have h1 := ck_all (show k < 189 by omega)
    exact List.all_eq_true.mp h1 0 (ent0 hk)
  have key := ih (p := p) (e := e) (R := (headSpec (mWs k) { frames := rkT.getD k 0, cells := hp1.1 - hp.1, slots := hp1.2.1 - hp.2.1, locals := lrT.getD k 0 }).room) (s := s) (m := m) (args := (as.map (cv b sb)).toArray) (below := below) (meth := meth) (c := c)
    (Qw := MQ below (mQc dC dI dA b sb v hp1) (as.map (cv b sb)).toArray s (hp1.1 - hp.1) (hp1.2.1 - hp.2.1) (fun q => b ≤ q)) (n0 := hp.1) (s0 := hp.2.1)
    ⟨hx, hb, hml, hown, hts, hini, hK, hNW, hAO, Nat.le_refl _, Nat.le_refl _, hsz, hsb⟩ (Nat.le_refl _) (Nat.le_refl _) (Nat.le_refl _) (Nat.le_refl _) ?_ 0 hck _ s.heap [] hLV hR va_S.rf
  · rw [Nat.sub_self, Nat.sub_self] at key
    exact key
  · intro pc ls H locs hret hR1 hS1
    have hq : ∀ t : State, t.heap = H → s.WarmedH t.vm → mQc dC dI dA b sb v hp1 (as.map (cv b sb)).toArray s (.returned (v.map (cv b sb))) t := fun t ht hW => ⟨rfl, by rw [ht]; exact hR1.moved hW.alike, hS1.F ht⟩
    unfold RetOK at hret
    unfold rtF at hr
    have hrt : rtT.getD k 9 = rtT.getD k 0 := rt_def (show k < 189 by omega)
    rw [hrt] at hret
    split at hret
    · rename_i h0
      rw [h0] at hr
      obtain ⟨hd, rfl⟩ := hret
      exact W.vret hx hb hr hq hS1.2.2 hd
    · rename_i h0
      rw [h0] at hr
      obtain ⟨hd, x, rfl⟩ := hret
      exact W.iret hx hb hr hq hS1.2.2 hd
    · rename_i h0
      rw [h0] at hr
      obtain ⟨hd, rfl | rfl⟩ := hret
      · exact W.zret hx hb hr rfl hq hS1.2.2 hd
      · exact W.zret hx hb hr rfl hq hS1.2.2 hd
    · rename_i h0 h1 h2
      obtain ⟨hd, x, rfl⟩ := hret
      have hr3 : meth.sig.returnType = some .long := by
        rw [hr]
        split
        · rename_i q; exact absurd q h0
        · rename_i q; exact absurd q h1
        · rename_i q; exact absurd q h2
        · rfl
      exact W.lret hx hb hr3 hq hS1.2.2 hd
set_option maxHeartbeats 4000000 in
/-- the call's own row of the tables, and the callee's contract, give the run of the call -/
theorem call_run (hC : Cx p R s m args meth c dC dI dA b sb n0 mid) {pc x k na kd : Nat} {r : Instr} (hr : r = .invokestatic x ∨ r = .invokevirtual x ∨ r = .invokespecial x) (hd : decode (cM mid) pc = .ok (r, 3)) (hlk : lk mtL (clT.getD mid 99) x = some (k, na, kd)) (hkd : (r = .invokestatic x ∧ (kd = 0 ∨ kd = 3)) ∨ (r = .invokevirtual x ∧ kd = 1) ∨ (r = .invokespecial x ∧ (kd = 2 ∨ kd = 4))) (hrm : k < 186 ∧ k ≠ 184 ∧ rkT.getD k 0 + 1 ≤ rkT.getD mid 0 ∧ 19 + mlT.getD k 0 + lrT.getD k 0 ≤ lrT.getD mid 0)
    {as rest : List Value} {hp hp1 : fH} {v : Option Value} {ls : Array Slot} {H : Heap} {locs : List Loc} {lv : List Value} (hvo : vOK k as hp = true) (hna : as.length = naT.getD k 99) (hrest : rest.length ≤ 4) (hl : LV b sb (mlT.getD mid 0) lv ls) (hR : RH dC dI dA b sb s hp H) (hsz : H.size = b + hp.1)
    (hM : Met l (yM k) (mWs k) ({ frames := rkT.getD k 0, cells := hp1.1 - hp.1, slots := hp1.2.1 - hp.2.1, locals := lrT.getD k 0 }) (mPc dC dI dA b sb as hp) (mQc dC dI dA b sb v hp1) (hp1.1 - hp.1) (hp1.2.1 - hp.2.1) (fun q => b ≤ q)) (hc1 : hp.1 - n0 + (hp1.1 - hp.1) ≤ R.cells) (hc2 : hp.2.1 - s0 + (hp1.2.1 - hp.2.1) ≤ R.slots) :
    va_Run p l e R s m args below meth c H locs (hp.1 - n0) (hp.2.1 - s0) (hp1.1 - hp.1) (hp1.2.1 - hp.2.1) (F0 m pc ls ((as.reverse ++ rest).map (cv b sb))) (rest.map (cv b sb)) (mQc dC dI dA b sb v hp1 (as.map (cv b sb)).toArray) (fun q => b ≤ q) := by
  obtain ⟨hx, hb, hml, hown, hts, hini, hK, hNW, hAO, hrk, hlr, hz, hsb⟩ := hC
  obtain ⟨hk, hk2, hfr, hlo⟩ := hrm
  obtain ⟨w1, w2, w3, w4, w5, w6, w7, w8⟩ := m_all hk hk2
  have hmt := mt_all _ (lk_mem hlk)
  have hgood : GoodIn AW (mWs k) := fun w hw => by
    rcases List.mem_cons.mp hw with rfl | hw
    · exact aw_good _ w1
    · exact aw_good _ hw
  have hws := pay_in hts hgood
  have hmem : Cond.code (yM k) (cM k) (mlT.getD k 0) (rtF k) ∈ mWs k := List.mem_cons_self
  have hblind : FrameBlind (mPc dC dI dA b sb as hp) := fun a U g mk q => by
    obtain ⟨q0, q1, q2, q3, q4, q5⟩ := q
    exact ⟨q0, q1.moved (U := U.calling g mk a) (Vm.Alike.refl U.vm), va_K.moved (u := U) (U := U.calling g mk a) (Vm.Alike.refl U.vm) q2, NW.same (u := U) (U := U.calling g mk a) rfl q3, va_AO.moved (u := U) (U := U.calling g mk a) (Vm.Alike.refl U.vm) q4, q5⟩
  have hpre : ∀ U : State, U.heap = H → s.WarmedH U.vm → mPc dC dI dA b sb as hp (as.map (cv b sb)).toArray U := fun U hU hW => ⟨rfl, by rw [hU]; exact hR.moved hW.alike, va_K.moved hW.alike hK, hNW.warm hW, va_AO.moved hW.alike hAO, by rw [hU]; exact hsz⟩
  have hroom : 2 * (F0 m pc ls ((as.reverse ++ rest).map (cv b sb))).monitorRoom + ((rest.map (cv b sb)).map fun v => v.category).sum ≤ 8 := by
    have := cat_sum b sb rest
    show 2 * 0 + _ ≤ 8
    omega
  have hfix : CallFix p m c (cM mid) (mlT.getD mid 0) s args AW (ownS (clT.getD mid 99)) := ⟨hx, hb, hml, hown, hts⟩
  have hst : (as.reverse ++ rest).map (cv b sb) = (as.map (cv b sb)).reverse ++ rest.map (cv b sb) := by rw [List.map_append, List.map_reverse]
  have par : ∀ j, (parseMethodDescriptor (yM k).desc).map (fun d => d.parameters.length + j) = some (naT.getD k 99) → ∀ sig, parseMethodDescriptor (yM k).desc = some sig → naT.getD k 99 - j = sig.parameters.length := fun j h sig hs => by
    rw [hs] at h
    simp only [Option.map_some, Option.some.injEq] at h
    omega
  have hcb : ∀ (n : Nat), (∀ sig, parseMethodDescriptor (yM k).desc = some sig → n = sig.parameters.length) → Cond.methodLink (ownS (clT.getD mid 99)) x (yM k) ∈ AW → CallB R s args (ownS (clT.getD mid 99)) x (yM k) (cM k) (mlT.getD k 0) (rtF k) (mWs k) ({ frames := rkT.getD k 0, cells := hp1.1 - hp.1, slots := hp1.2.1 - hp.2.1, locals := lrT.getD k 0 }) (hp1.1 - hp.1) (hp1.2.1 - hp.2.1) n := fun n hn hw =>
    ⟨rfl, rfl, by show rkT.getD k 0 + 1 ≤ R.frames; omega, by show 8 + (mlT.getD k 0 + 11) + lrT.getD k 0 ≤ R.locals; omega, hws, hmem, hts _ w1, hts _ w2, w4, hn, hts _ hw⟩
  have hcn : ∀ (n : Nat), (∀ sig, parseMethodDescriptor (yM k).desc = some sig → n = sig.parameters.length) → va_Nw (.methodLinkNest (ownS (clT.getD mid 99)) x (yM k) RX5) s → va_CN R s args (ownS (clT.getD mid 99)) x (yM k) RX5 (cM k) (mlT.getD k 0) (rtF k) (mWs k) ({ frames := rkT.getD k 0, cells := hp1.1 - hp.1, slots := hp1.2.1 - hp.2.1, locals := lrT.getD k 0 }) (hp1.1 - hp.1) (hp1.2.1 - hp.2.1) n := fun n hn hw =>
    ⟨⟨rfl, rfl, by show rkT.getD k 0 + 1 ≤ R.frames; omega, by show 8 + (mlT.getD k 0 + 11) + lrT.getD k 0 ≤ R.locals; omega, hws, hmem⟩, hts _ w1, hts _ w2, w4, hn, va_Nw.use rfl hw⟩
  have recv : kdT.getD k 0 ≠ 0 → ∃ a as2, as = .ref a :: as2 ∧ isO (f_get hp a) (clT.getD k 99) = true := fun h0 => by
    unfold vOK at hvo
    rw [Bool.and_eq_true, if_neg h0] at hvo
    have hvo := hvo.2
    cases as with
    | nil => cases hvo
    | cons v t =>
      cases v with
      | ref a => exact ⟨a, t, rfl, hvo⟩
      | _ => cases hvo
  rcases hkd with ⟨rfl, hkd⟩ | ⟨rfl, rfl⟩ | ⟨rfl, hkd⟩
  · rcases hkd with rfl | rfl
    · obtain ⟨g1, g2, g3⟩ := hmt
      obtain ⟨x1, x2⟩ := w6 g2
      exact va_runS (n := naT.getD k 99) hfix hM ⟨hcb (naT.getD k 99) (par 0 x2) g3, hts _ x1⟩ ⟨hblind, hpre⟩ rfl (by rw [List.length_map, hna]) hl.2.1 hst hroom hd ⟨hc1, hc2⟩
    · obtain ⟨g1, g2, g3⟩ := hmt
      obtain ⟨x1, x2⟩ := w6 g2
      have hnw : va_Nw (.methodLinkNest (ownS (clT.getD mid 99)) x (yM k) RX5) s := hNW (clT.getD mid 99, x, k, na, 3) (lk_mem hlk) (Or.inl rfl)
      exact va_runSN (n := naT.getD k 99) hfix hM ⟨hcn (naT.getD k 99) (par 0 x2) hnw, hts _ x1, trivial⟩ ⟨hblind, hpre⟩ rfl (by rw [List.length_map, hna]) hl.2.1 hst hroom hd ⟨hc1, hc2⟩
  · obtain ⟨g1, g2, g3⟩ := hmt
    obtain ⟨x1, x2, x3⟩ := w7 g2
    obtain ⟨a, as2, rfl, hO⟩ := recv (by dsimp only at g2; omega)
    obtain ⟨fs, hO⟩ := isO_inv hO
    have h7 := cl7 hk g2
    obtain ⟨ha, h9⟩ := hR.obj hO h7
    obtain ⟨C, T, N, hv, hC⟩ := vw_own h7
    have hcell := wsO_get (dA := dA) (b := b) (sb := sb) ha
    rw [show hp.2.2 a = f_get hp a from rfl, hO] at hcell
    have hrc := va_recv hK hR.1 hv hcell
    dsimp only at hrc
    have ea : cv b sb (.ref a) = .ref (b + a) := by simp [cv, cvN_b h9]
    have hst2 : (((Value.ref a :: as2).reverse ++ rest).map (cv b sb)) = (as2.map (cv b sb)).reverse ++ .ref (b + a) :: rest.map (cv b sb) := by
      rw [hst, List.map_cons, ea]; simp
    have hpre2 : ∀ U : State, U.heap = H → s.WarmedH U.vm → mPc dC dI dA b sb (Value.ref a :: as2) hp (Value.ref (b + a) :: as2.map (cv b sb)).toArray U := fun U hU hW => by
      have h1 := hpre U hU hW
      rw [List.map_cons, ea] at h1
      exact h1
    rw [List.map_cons, ea]
    refine va_runV (C := (yM k).cls) (n := naT.getD k 99 - 1) hfix hM ⟨hcb (naT.getD k 99 - 1) (par 1 x3) g3, hts _ x1, hts _ x2⟩ ⟨hblind, by rw [w5, ← hC]; exact hrc, hpre2⟩ rfl (by rw [List.length_map]; rw [List.length_cons] at hna; omega) hl.2.1 hst2 hroom hd ⟨hc1, hc2⟩
  · have hk2k : kdT.getD k 0 = 2 := by rcases hkd with rfl | rfl <;> exact hmt.2.1
    obtain ⟨x1, x2, x3, x4⟩ := w8 hk2k
    obtain ⟨a, as2, rfl, hO⟩ := recv (by omega)
    obtain ⟨fs, hO⟩ := isO_inv hO
    have h7 := cl7' hk hk2k
    obtain ⟨ha, h9⟩ := hR.obj hO h7
    have ea : cv b sb (.ref a) = .ref (b + a) := by simp [cv, cvN_b h9]
    have hst2 : (((Value.ref a :: as2).reverse ++ rest).map (cv b sb)) = (as2.map (cv b sb)).reverse ++ .ref (b + a) :: rest.map (cv b sb) := by
      rw [hst, List.map_cons, ea]; simp
    have hpre2 : ∀ U : State, U.heap = H → s.WarmedH U.vm → mPc dC dI dA b sb (Value.ref a :: as2) hp (Value.ref (b + a) :: as2.map (cv b sb)).toArray U := fun U hU hW => by
      have h1 := hpre U hU hW
      rw [List.map_cons, ea] at h1
      exact h1
    rw [List.map_cons, ea]
    rcases hkd with rfl | rfl
    · have hcb2 := hcb (naT.getD k 99 - 1) (par 1 x4) hmt.2.2
      rw [x3] at hcb2
      exact va_runI (n := naT.getD k 99 - 1) hfix hM ⟨hcb2, x2, hts _ x1⟩ ⟨hblind, hpre2⟩ rfl (by rw [List.length_map]; rw [List.length_cons] at hna; omega) hl.2.1 hst2 hroom hd ⟨hc1, hc2⟩
    · have hnw : va_Nw (.methodLinkNest (ownS (clT.getD mid 99)) x (yM k) RX5) s := hNW (clT.getD mid 99, x, k, na, 4) (lk_mem hlk) (Or.inr rfl)
      have hcn2 := hcn (naT.getD k 99 - 1) (par 1 x4) hnw
      rw [x3] at hcn2
      exact va_runIN (n := naT.getD k 99 - 1) hfix hM ⟨hcn2, x2, hts _ x1⟩ ⟨hblind, hpre2⟩ rfl (by rw [List.length_map]; rw [List.length_cons] at hna; omega) hl.2.1 hst2 hroom hd ⟨hc1, hc2⟩
end CALL
set_option maxHeartbeats 4000000 in
theorem snd_all (l : Launch) (dC : Nat → ClassId) (dI : Nat → Nat → Nat) (dA : Nat → ClassId) (b sb : Nat) : ∀ (n mid : Nat) (is : List Instr) (lv st : List Value) (hp : fH) (v : Option Value) (hp' : fH), mid < 186 → run n mid is lv st hp = some (v, hp') → hp'.1 ≤ SL → Snd l dC dI dA b sb mid is lv st hp v hp' := by
  intro n
  induction n with
  | zero => intro mid is lv st hp v hp' hm h; simp [run] at h
  | succ n ih =>
    intro mid is lv st hp v hp' hm h hSL p e R s m args below meth c Qw n0 s0 hC hn0 hs0 hRc hRs hend pc hck
    have hckM := ck_all (show mid < 189 by omega)
    cases is with
    | nil => simp [run] at h
    | cons ins is =>
      rw [run] at h
      rw [chkB] at hck
      split at hck
      · rename_i t hj
        have hins : ins = .jsr t := by
          unfold isJ at hj
          split at hj
          · cases hj; rfl
          · cases hj
        subst hins
        simp only [Bool.and_eq_true, decide_eq_true_eq] at hck
        obtain ⟨rfl, hck⟩ := hck
        simp only [stp] at h
        have hb2 : chkB mid pc (blk mid pc) = true := List.all_eq_true.mp hckM pc (List.contains_iff_mem.mp hck)
        exact ih mid _ lv st hp v hp' hm h hSL hC hn0 hs0 hRc hRs hend pc hb2
      · rename_i hj
        split at hck
        · rename_i len hI
          unfold chkI at hI
          split at hI
          · rename_i r len2 hd
            split at hI
            · rename_i hall
              cases hI
              obtain ⟨htr, hlen, htg, hcr⟩ := hall
              have hnx : isTm ins = false → chkB mid (pc + len) is = true := fun q => by
                rw [q, Bool.false_or] at hck
                exact hck
              split at h
              · cases h
              · rename_i is1 lv1 st1 hp1 hs
                have hg := run_grow _ _ _ _ _ _ _ _ h
                have hg1 : hp.1 ≤ hp1.1 ∧ hp.2.1 ≤ hp1.2.1 := stp_grow hs
                exact snd_step hC hd htr hlen htg hcr hckM hnx hs hn0 hs0 (by omega) (by omega) (by omega) (fun pc' hc' => ih mid is1 lv1 st1 hp1 v hp' hm h hSL hC (by omega) (by omega) hRc hRs hend pc' hc')
              · rename_i k as rest hs
                split at h
                · rename_i hvo
                  split at h
                  · cases h
                  · rename_i v1 hp1 he
                    obtain ⟨na, rfl, q1, q2, q3, q4⟩ := stp_call hs
                    have hg1 := run_grow _ _ _ _ _ _ _ _ he
                    have hg2 := run_grow _ _ _ _ _ _ _ _ h
                    have hrm : k < 186 ∧ k ≠ 184 ∧ rkT.getD k 0 + 1 ≤ rkT.getD mid 0 ∧ 19 + mlT.getD k 0 + lrT.getD k 0 ≤ lrT.getD mid 0 := by
                      simp only [cRm, Bool.and_eq_true, decide_eq_true_eq] at hcr
                      obtain ⟨⟨⟨c1, c2⟩, c3⟩, c4⟩ := hcr
                      obtain ⟨d1, d2, d3⟩ := dflt c1
                      rw [d1] at c3
                      rw [d2, d3] at c4
                      exact ⟨c1, c2, c3, c4⟩
                    have hen : (entL as).length ≤ mlT.getD k 0 := by
                      have h1 := hvo.1
                      unfold vOK at h1
                      rw [Bool.and_eq_true] at h1
                      exact of_decide_eq_true h1.1
                    have hM := met_of (l := l) (dC := dC) (dI := dI) (dA := dA) (b := b) (sb := sb) hrm.1 hrm.2.1 hC.2.2.2.2.2.2.2.2.2.2.2.2 hen (ih k _ _ _ _ _ _ hrm.1 he (by omega))
                    obtain ⟨x, kd, hr0, hlk, hkd⟩ := tr_call htr
                    have hl3 : len = 3 := by
                      rcases hr0 with rfl | rfl | rfl <;> simpa [isSw, ilen] using hlen
                    subst hl3
                    have hstk : st = as.reverse ++ rest := by rw [q3, q4, List.reverse_reverse, List.take_append_drop]
                    intro ls H locs hl hR hS
                    refine W.sz (fun hu => ?_)
                    have hsz := RH.size hR hS hC.2.2.2.2.2.2.2.2.2.2.2.1 hn0 hu
                    rw [hstk]
                    refine call_go (call_run (s0 := s0) hC hr0 hd hlk hkd hrm hvo.1 hvo.2 q2 hl hR hsz hM (by omega) (by omega)) (fun v2 st2 t T1 L a1 a2 a3 a4 a5 a6 => ?_)
                    obtain ⟨b1, b2, b3⟩ := a6
                    cases b1
                    have hR1 : RH dC dI dA b sb s hp1 t.heap := b2.moved (by rw [← a3]; exact a4.alike.symm)
                    have hS1 : va_S (fun q => b ≤ q) s.heap t.heap (locs ++ L) := by
                      refine ⟨Nat.le_trans hS.1 (by rw [← a1]; exact b3.1), fun q h1 h2 => ?_, fun q hq => ?_⟩
                      · rw [b3.2 q (by rw [a1]; have := hS.1; omega) h2, a1]
                        exact hS.2.1 q h1 h2
                      · rcases List.mem_append.mp hq with h | h
                        · exact hS.2.2 q h
                        · exact a5 q h
                    have key := ih mid is lv (v1.toList ++ rest) hp1 v hp' hm h hSL hC (by omega) (by omega) hRc hRs hend (pc + 3) (hnx rfl) ls t.heap (locs ++ L) hl hR1 hS1
                    rw [show hp.1 - n0 + (hp1.1 - hp.1) = hp1.1 - n0 by omega, show hp.2.1 - s0 + (hp1.2.1 - hp.2.1) = hp1.2.1 - s0 by omega]
                    rw [List.map_append] at key
                    have ev : (v1.map (cv b sb)).toList = v1.toList.map (cv b sb) := by cases v1 <;> rfl
                    rw [ev]
                    exact key
                · cases h
              · rename_i v2 hs
                cases h
                obtain ⟨rfl, hret⟩ := stp_ret hs
                intro ls H locs hl hR hS
                refine hend pc ls H locs (ret_ok hm hd htr hlen hcr hret) hR hS
            · cases hI
          · cases hI
        · cases hck
