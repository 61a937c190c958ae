theorem ao_in : Cond.arrayOver (.object RX2) ∈ tables_1 := by decide +kernel
def instOK (ci : Nat) : Bool := match vwCl[ci]? with
  | some (C, _, N) => wOK (.instantiable C N)
  | none => true
theorem inst_all : (List.range 7).all instOK = true := by decide +kernel
theorem inst_ok {ci : Nat} {C : String} {T : u_T} {N : Nat} (h : vwCl[ci]? = some (C, T, N)) : Cond.instantiable C N ∈ AW := by
  have h7 := (cls_ok h).2.2.2
  have h1 := List.all_eq_true.mp inst_all ci (List.mem_range.mpr h7)
  unfold instOK at h1
  rw [h] at h1
  exact wOK_in h1
/-! THE CLAIM OUT OF ONE WALK OF THE LAW'S BODY. Your part is whole_start (and what it stands on); all else here is the same for every law, but numbers. -/
def R_law : String := "FieldsByDotsLaw"
def lw_P (b : Addr) (xs : List Int32) (args : Array Value) (s : State) : Prop := args = #[.ref b] ∧ s.IntsAt b xs ∧ xs.length ≤ 320 ∧ (Jvm.Cond.and given_1 narrow_1).before args s = true
def lw_Q (_ : Array Value) (s : State) (o : Outcome) (t : State) : Prop := o = .returned (some (.int 1)) ∧ Framed s o t [] 600000 7302250
def lw_Z (below : List Frame) (a : Array Value) (s : State) : State → Prop := fun t => ∃ o, t.status = .running ∧ Ended t below o ∧ lw_Q a s o t
/-- the law's own end, with 1 on the stack, nothing written that was there before, its room as the claim has it -/
theorem lw_ret {p : Program} {l : Launch} {e : Env} {s : State} {m : MethodId} {below : List Frame} {meth : Method} {c : Code} {b : Nat} (hx : p.tables.exec = Jvm.exec) (hb : c.code = code) (hr : meth.sig.returnType = ret) (hlocks : meth.locks = false) {pc : Nat} {H : Heap} {ls : Array Slot} (hdg : decode code pc = .ok (.ireturn, 1)) : W p l e room_1 s m #[Value.ref b] below meth c H [] 600000 7302250 (lw_Z below #[Value.ref b] s) (F0 m pc ls [.int 1]) := by
  intro T hT X
  obtain ⟨fs, hret, hrun, hended, hW, hframe⟩ := X.leave (v := some (.int 1)) (hlocks := hlocks) (fun h => by rw [hr] at h; cases h)
  have hmeth' : T.vm.method? m = some meth := X.method'
  refine ⟨T.setFrames fs, ?_, .returned (some (.int 1)), hrun, hended, rfl, ⟨_, rfl⟩, hW, hframe⟩
  jvm_step X.here [X.here.top, hx, hb, hdg, hmeth', hr, ret, narrow_b1]
  (try refine ⟨rfl, ?_⟩); (try refine ⟨rfl, ?_⟩)
  first | (intro acts; rw [hret _ acts rfl rfl rfl]) | rw [hret _ _ rfl rfl rfl]
  exact Steps.refl _
/-- what holds at the law's entry: the machine, the code, the tables' words (any of lw_tbl by 'hts w (by decide +kernel)'), the script of L ints xs at the cell b, what the Statement gives of the start (any of its parts by flat_of_before) -/
def lw_At (p : Program) (s : State) (m : MethodId) (meth : Method) (c : Code) (b L : Nat) (xs : Nat → Int32) : Prop :=
  p.tables.exec = Jvm.exec ∧ c.code = code ∧ meth.sig.returnType = ret ∧ c.maxLocals = 4 ∧ s.vm.findClass R_law = some m.cls ∧ (∀ w ∈ lw_tbl, w.before #[Value.ref b] s = true) ∧ va_X b L xs s s.heap ∧ b < s.heap.size ∧ meth.locks = false ∧ (Jvm.Cond.and given_1 narrow_1).before #[Value.ref b] s = true

/-- the heap at the law's entry: nothing but the script -/
def h0 (L : Nat) (xs : Nat → Int32) : fH := (0, 0, fun k => if k = SL then .inl (9, L, .inl xs) else bad)
/-- the law's body on the small machine -/
def LawGo (L : Nat) (xs : Nat → Int32) : Prop := Go 184 (blk 184 0) [.ref SL, jk, jk, jk] [] (h0 L xs) (fun v h => v = some (.int 1) ∧ h.1 ≤ 600000 ∧ h.2.1 ≤ 7302250)
theorem K_start {args : Array Value} {s : State} (hts : ∀ w ∈ AW, w.before args s = true) (hA3 : va_AO RX2 s) : ∃ (dC : Nat → ClassId) (dI : Nat → Nat → Nat) (dA : Nat → ClassId), va_K (dC, dI) vwCl (tysO dA) s := by
  have kn : ∀ ci : Nat, ∃ (cC : ClassId) (iS : Nat → Nat), ∀ q : vw_C, vwCl[ci]? = some q → u_Kn s q.1 q.2.1 q.2.2 cC iS := by
    intro ci
    cases hv : vwCl[ci]? with
    | none => exact ⟨0, fun _ => 0, fun q h => by cases h⟩
    | some q =>
      obtain ⟨C, T, N⟩ := q
      obtain ⟨hin, -, -, h7⟩ := cls_ok hv
      obtain ⟨cC, iS, h⟩ := u_known (n := N) hts hin (hts _ (inst_ok hv))
      exact ⟨cC, iS, fun q hq => by cases hq; exact h⟩
  obtain ⟨cI, kI, compI, i1, i2, i3⟩ := Cond.arrayClass_spec (hts _ ac_i)
  obtain ⟨cJ, kJ, compJ, j1, j2, j3⟩ := Cond.arrayClass_spec (hts _ ac_l)
  obtain ⟨cZ, kZ, compZ, z1, z2, z3⟩ := Cond.arrayClass_spec (hts _ ac_z)
  obtain ⟨comp, cQ, kQ, q1, q2, q3, q4, q5⟩ := Cond.arrayOver_spec hA3
  refine ⟨fun ci => Classical.choose (kn ci), fun ci => Classical.choose (Classical.choose_spec (kn ci)), fun k => if k = 0 then cI else if k = 1 then cJ else if k = 2 then cZ else cQ, fun ci q hq => Classical.choose_spec (Classical.choose_spec (kn ci)) q hq, fun k q hq => ?_⟩
  match k, hq with
  | 0, hq => cases hq; exact ⟨fun n z => ⟨fun k h => (by cases h), kI, i2, compI, i3⟩, i1⟩
  | 1, hq => cases hq; exact ⟨fun n z => ⟨fun k h => (by cases h), kJ, j2, compJ, j3⟩, j1⟩
  | 2, hq => cases hq; exact ⟨fun n z => ⟨fun k h => (by cases h), kZ, z2, compZ, z3⟩, z1⟩
  | 3, hq => cases hq; exact ⟨fun n z => ⟨fun k h => (by cases h), kQ, q3, comp, q4⟩, kQ, comp, q3, q4, q1, q5⟩
  | k + 4, hq => simp [tysO] at hq
set_option maxHeartbeats 4000000 in
set_option maxRecDepth 100000 in
theorem whole_of {p : Program} {e : Env} {s : State} {m : MethodId} {below : List Frame} {meth : Method} {c : Code} (l : Launch) {b L : Nat} {xs : Nat → Int32} (hgo : LawGo L xs) (C0 : lw_At p s m meth c b L xs) : W p l e room_1 s m #[Value.ref b] below meth c s.heap [] 0 0 (lw_Z below #[Value.ref b] s) (entryFrame m ([Value.ref b] : List Value).toArray 4) := by
  obtain ⟨hx, hb, hr, hml, hown, hts, hX, hbl, hlocks, hgv⟩ := id C0
  have hAW := aw_tbl hts
  have hAO : va_AO RX2 s := va_AO.of (hts (.arrayOver (.object RX2)) (List.mem_append_right _ ao_in))
  have hNW : NW s := fun q hq hk => by
    have h1 := mt_all q hq
    obtain ⟨cn, x, k, na, kd⟩ := q
    rcases hk with hk | hk
    · dsimp only at hk
      subst hk
      exact va_Nw.of rfl (hts _ (List.mem_append_right _ h1.2.2))
    · dsimp only at hk
      subst hk
      exact va_Nw.of rfl (hts _ (List.mem_append_right _ h1.2.2))
  obtain ⟨dC, dI, dA, hK⟩ := K_start hAW hAO
  obtain ⟨n, v, h, hrun, hv, hc, hs⟩ := hgo
  subst hv
  have key := snd_all l dC dI dA s.heap.size b n 184 _ _ _ _ _ _ (by decide) hrun (by show h.1 ≤ 1000000; omega) (p := p) (e := e) (R := room_1) (s := s) (m := m) (args := #[Value.ref b]) (below := below) (meth := meth) (c := c) (Qw := lw_Z below #[Value.ref b] s) (n0 := 0) (s0 := 0)
    ⟨hx, hb, hml, hown, hAW, fun q => absurd q (by decide), hK, hNW, hAO, by decide, by decide, rfl, hbl⟩ (Nat.zero_le _) (Nat.zero_le _) (by show h.1 - 0 ≤ 600000; omega) (by show h.2.1 - 0 ≤ 7302250; omega) ?_ 0 ?_
  · have hl := lv_entry ([.ref b]) (n := 4) (Nat.le_of_ble_eq_true rfl)
    rw [lg_entry_eq]
    have e1 : cvN s.heap.size b SL = b := cvN_s
    refine key _ s.heap [] ⟨rfl, hl.1, hl.2.1, fun q hq => hl.2.2 q ?_⟩ ?_ va_S.rf
    · have h2 : lvA s.heap.size b 0 [.ref SL, jk, jk, jk] = [(0, .ref b)] := by
        simp only [lvA, isJk, jk, cv, e1, if_true, Bool.false_eq_true, if_false]
      rw [h2] at hq
      exact hq
    · refine ⟨fun k q hq => ?_, fun n f hq => ?_, fun k _ h9 => ?_, by show 0 ≤ 1000000; omega, fun k h9 n x hq => ?_, Or.inr ⟨L, xs, ?_⟩⟩
      · obtain ⟨hk, -⟩ := wsO_at hq
        exact absurd hk (Nat.not_lt_zero _)
      · have h3 : (h0 L xs).2.2 SL = .inl (9, L, .inl xs) := by simp [h0]
        rw [h3] at hq
        cases hq
        exact hX
      · exact if_neg h9
      · have h3 : (h0 L xs).2.2 k = bad := if_neg h9
        rw [h3] at hq
        cases hq
      · simp [h0]
  · intro pc ls H locs hret hR hS
    have hd : decode (cM 184) pc = .ok (.ireturn, 1) := hret.1
    refine va_forget (fun q hq => hS.2.2 q hq) ?_
    refine W.widen (k := 600000) (n := 7302250) (by omega) (by omega) ?_
    exact lw_ret hx hb hr hlocks hd
  · exact List.all_eq_true.mp (ck_all (show 184 < 189 by decide)) 0 (by decide +kernel)
