/-! What holds between the class and the reference from call to call. -/
/-- two fields of n corners are told alike -/
def Ag (n : Nat) (X X' : Nat → Int) : Prop := ∀ i, i < n → X i = X' i
/-- unlike corners -/
def Dst (n : Nat) (X Y : Nat → Int) : Prop := ∀ i j, i < n → j < n → i ≠ j → 0 < lng X Y i j
/-- kept field k of the reference -/
def kw (x : Nat → Int) (k : Nat) : Nat → Int := fun i => x (10 * k + i)
/-- a kept field is in its bounds, its corners unlike -/
def KOk (M : MZ) : Prop := ∀ s, s < 2 → mkp M s = true → ∀ f, f < 4 → mKM M (4 * s + f) ≤ 10 ∧ Rg (mKM M (4 * s + f)) (kw (mKX M) (4 * s + f)) (kw (mKY M) (4 * s + f)) ∧ Dst (mKM M (4 * s + f)) (kw (mKX M) (4 * s + f)) (kw (mKY M) (4 * s + f))
def Rl (Z : CZ) (M : MZ) : Prop := (zL Z = mL M ∧ Ag (mL M) (zB Z) (mB M)) ∧ (∀ f, f < 4 → zN Z f = mM M f ∧ Ag (mM M f) (zX Z f) (fw (mX M) f) ∧ Ag (mM M f) (zY Z f) (fw (mY M) f)) ∧ (∀ s, s < 2 → zkp Z s = mkp M s) ∧ (∀ s, s < 2 → mkp M s = true → ∀ f, f < 4 → zKN Z (4 * s + f) = mKM M (4 * s + f) ∧ Ag (mKM M (4 * s + f)) (zKX Z (4 * s + f)) (kw (mKX M) (4 * s + f)) ∧ Ag (mKM M (4 * s + f)) (zKY Z (4 * s + f)) (kw (mKY M) (4 * s + f)))
def Inv (Z : CZ) (M : MZ) : Prop := Zok Z ∧ Mok M ∧ Dsm M ∧ KOk M ∧ Rl Z M
theorem Inv.z {Z : CZ} {M : MZ} (h : Inv Z M) : Zok Z := h.1
theorem Inv.m {Z : CZ} {M : MZ} (h : Inv Z M) : Mok M := h.2.1
theorem Inv.d {Z : CZ} {M : MZ} (h : Inv Z M) : Dsm M := h.2.2.1
theorem Inv.k {Z : CZ} {M : MZ} (h : Inv Z M) : KOk M := h.2.2.2.1
theorem Inv.r {Z : CZ} {M : MZ} (h : Inv Z M) : Rl Z M := h.2.2.2.2
theorem Inv0 : Inv Z0 M0 := by
  refine ⟨Z0_ok, M0_ok, fun f hf i j hi => absurd hi (Nat.not_lt_zero i), ?_, ?_, ?_, ?_, ?_⟩
  · intro s hs q
    exact absurd (show false = true from q) (by decide)
  · exact ⟨rfl, fun i hi => rfl⟩
  · exact fun f hf => ⟨rfl, fun i hi => rfl, fun i hi => rfl⟩
  · exact fun s hs => rfl
  · intro s hs q
    exact absurd (show false = true from q) (by decide)
theorem Cls.ex {h h' : fH} {Z : CZ} (hC : Cls h Z) (e : ∀ k, k < 56 → f_get h' k = f_get h k) : Cls h' Z := by
  have eo : ∀ o n X Y, o + 3 ≤ 56 → Out h o n X Y → Out h' o n X Y := fun o n X Y ho q => ⟨by rw [e _ (by omega)]; exact q.1, by rw [e _ (by omega)]; exact q.2.1, by rw [e _ (by omega)]; exact q.2.2⟩
  obtain ⟨g1, p1, p2⟩ := hC.fs
  obtain ⟨g2, p3, p4⟩ := hC.ks
  obtain ⟨m1, A1, B1, q1⟩ := hC.sp
  obtain ⟨m2, A2, B2, q2⟩ := hC.sg
  obtain ⟨m3, A3, B3, C3, q3⟩ := hC.ct
  obtain ⟨m4, A4, B4, q4⟩ := hC.ar
  exact ⟨(e 0 (by omega)).trans hC.o, ⟨(e 1 (by omega)).trans hC.t.1, (e 2 (by omega)).trans hC.t.2⟩, ⟨g1, (e 3 (by omega)).trans p1, p2⟩, fun f hf => eo _ _ _ _ (by omega) (hC.f f hf), ⟨g2, (e 16 (by omega)).trans p3, p4⟩, fun f hf => eo _ _ _ _ (by omega) (hC.k f hf), (e 41 (by omega)).trans hC.b, ⟨m1, A1, B1, eo _ _ _ _ (by omega) q1⟩, ⟨m2, A2, B2, (e _ (by omega)).trans q2.1, (e _ (by omega)).trans q2.2.1, (e _ (by omega)).trans q2.2.2⟩, ⟨m3, A3, B3, C3, (e _ (by omega)).trans q3.1, (e _ (by omega)).trans q3.2.1, (e _ (by omega)).trans q3.2.2.1, (e _ (by omega)).trans q3.2.2.2⟩, (e 52 (by omega)).trans hC.lk, ⟨m4, A4, B4, eo _ _ _ _ (by omega) q4⟩⟩
theorem Cls.kp {h h' : fH} {Z : CZ} (hC : Cls h Z) {S : Nat → Prop} (hF : Fr h h' S) (hS : ∀ k, k < 56 → ¬ S k) : Cls h' Z := hC.ex (fun k hk => hF.2.2 k (hS k hk))
theorem Mdl.kp {h h' : fH} {M : MZ} (hM : Mdl h M) {S : Nat → Prop} (hF : Fr h h' S) (hS : ∀ k, 56 ≤ k → k ≤ 76 → ¬ S k) : Mdl h' M := ⟨(let ⟨o, a, b⟩ := hM.1; ⟨o, a, b.of hF (hS _ (by omega) (by omega))⟩), hM.2.1.of hF (hS _ (by omega) (by omega)), hM.2.2.1.of hF (hS _ (by omega) (by omega)) (hS _ (by omega) (by omega)) (hS _ (by omega) (by omega)), hM.2.2.2.1.of hF (fun k a b => hS k (by omega) (by omega)), hM.2.2.2.2.of hF (fun k a b => hS k (by simp only [scS] at a; omega) (by simp only [scS] at a; omega))⟩
