/-! Turned, shifted, kept and gone on from. -/
def mpF (M : MZ) (f : Nat) (T : Int × Int → Int × Int) : MZ := mF M (fun j => if 10 * f ≤ j ∧ j < 10 * f + mM M f then (T (mX M j, mY M j)).1 else mX M j) (fun j => if 10 * f ≤ j ∧ j < 10 * f + mM M f then (T (mX M j, mY M j)).2 else mY M j) (mM M)
theorem mpF_2 (M : MZ) (f : Nat) (T U : Int × Int → Int × Int) : mpF (mpF M f T) f U = mpF M f (fun p => U (T p)) := by
  have e : ∀ (M : MZ) x y m, mX (mF M x y m) = x ∧ mY (mF M x y m) = y ∧ mM (mF M x y m) = m := fun _ _ _ _ => ⟨rfl, rfl, rfl⟩
  unfold mpF
  simp only [(e _ _ _ _).1, (e _ _ _ _).2.1, (e _ _ _ _).2.2]
  unfold mF
  refine Prod.ext rfl (Prod.ext rfl (Prod.ext ?_ (Prod.ext ?_ rfl)))
  · funext j
    by_cases c : 10 * f ≤ j ∧ j < 10 * f + mM M f
    · show (if 10 * f ≤ j ∧ j < 10 * f + mM M f then _ else _) = (if 10 * f ≤ j ∧ j < 10 * f + mM M f then _ else _)
      rw [if_pos c, if_pos c, if_pos c, if_pos c]
    · show (if 10 * f ≤ j ∧ j < 10 * f + mM M f then _ else _) = (if 10 * f ≤ j ∧ j < 10 * f + mM M f then _ else _)
      rw [if_neg c, if_neg c, if_neg c]
  · funext j
    by_cases c : 10 * f ≤ j ∧ j < 10 * f + mM M f
    · show (if 10 * f ≤ j ∧ j < 10 * f + mM M f then _ else _) = (if 10 * f ≤ j ∧ j < 10 * f + mM M f then _ else _)
      rw [if_pos c, if_pos c, if_pos c, if_pos c]
    · show (if 10 * f ≤ j ∧ j < 10 * f + mM M f then _ else _) = (if 10 * f ≤ j ∧ j < 10 * f + mM M f then _ else _)
      rw [if_neg c, if_neg c, if_neg c]
/-- a field whose corners are brought elsewhere one by one -/
theorem Inv.mp {Z : CZ} {M : MZ} (hI : Inv Z M) {f : Nat} (hf : f < 4) {T : Int × Int → Int × Int} (hT : ∀ p, (0 ≤ p.1 ∧ p.1 ≤ 15) ∧ 0 ≤ p.2 ∧ p.2 ≤ 15 → (0 ≤ (T p).1 ∧ (T p).1 ≤ 15) ∧ 0 ≤ (T p).2 ∧ (T p).2 ≤ 15) (hinj : ∀ p q, T p = T q → p = q) {X Y : Nat → Int} (hX : ∀ i, i < mM M f → X i = (T (zX Z f i, zY Z f i)).1) (hY : ∀ i, i < mM M f → Y i = (T (zX Z f i, zY Z f i)).2) : Inv (setF Z f (mM M f) X Y) (mpF M f T) := by
  have mp := hI.n10 hf
  have R0 := (hI.R hf).ag (hI.X hf).sy (hI.Y hf).sy
  have D0 := (hI.D hf).ag (hI.X hf).sy (hI.Y hf).sy
  refine hI.fld hf mp (fun i hi => ?_) (fun i j hi hj hij => lng_pos ?_) rfl (fun i hi => ?_) (fun i hi => ?_) (fun g hg hgf => ?_)
  · obtain ⟨q1, q2, q3, q4⟩ := R0 i hi
    have := hT (zX Z f i, zY Z f i) ⟨⟨q1, q2⟩, q3, q4⟩
    rw [hX i hi, hY i hi]
    exact ⟨this.1.1, this.1.2, this.2.1, this.2.2⟩
  · rw [hX i hi, hX j hj, hY i hi, hY j hj]
    refine Classical.byContradiction fun q => ?_
    have q1 : (T (zX Z f i, zY Z f i)).1 = (T (zX Z f j, zY Z f j)).1 := Classical.byContradiction fun z => q (Or.inl z)
    have q2 : (T (zX Z f i, zY Z f i)).2 = (T (zX Z f j, zY Z f j)).2 := Classical.byContradiction fun z => q (Or.inr z)
    have e := hinj _ _ (Prod.ext q1 q2)
    rcases D0.ne hi hj hij with z | z
    · exact z (congrArg Prod.fst e)
    · exact z (congrArg Prod.snd e)
  · show X i = (if 10 * f ≤ 10 * f + i ∧ 10 * f + i < 10 * f + mM M f then _ else _)
    rw [if_pos (by omega), hX i hi, hI.X hf i hi, hI.Y hf i hi]; rfl
  · show Y i = (if 10 * f ≤ 10 * f + i ∧ 10 * f + i < 10 * f + mM M f then _ else _)
    rw [if_pos (by omega), hY i hi, hI.X hf i hi, hI.Y hf i hi]; rfl
  · have mg := hI.n10 hg
    refine ⟨rfl, fun i hi => ?_, fun i hi => ?_⟩
    · show (if 10 * f ≤ 10 * g + i ∧ 10 * g + i < 10 * f + mM M f then _ else _) = _
      rw [if_neg (by omega)]; rfl
    · show (if 10 * f ≤ 10 * g + i ∧ 10 * g + i < 10 * f + mM M f then _ else _) = _
      rw [if_neg (by omega)]; rfl
def rt (p : Int × Int) : Int × Int := (15 - p.2, p.1)
theorem Inv.trn {Z : CZ} {M : MZ} (hI : Inv Z M) {f : Nat} (hf : f < 4) : Inv (trnZ Z f) (mpF M f rt) := by
  unfold trnZ
  rw [hI.N hf]
  refine hI.mp hf (fun p hp => ?_) (fun p q h => ?_) (fun i hi => ?_) (fun i hi => ?_)
  · simp only [rt]; omega
  · simp only [rt, Prod.mk.injEq] at h
    exact Prod.ext h.2 (by omega)
  · rw [fill_lt hi]; rfl
  · rw [fill_lt hi]; rfl
theorem Inv.mir {Z : CZ} {M : MZ} (hI : Inv Z M) {f : Nat} (hf : f < 4) : Inv (mirZ Z f) (mpF M f (fun p => (15 - p.1, p.2))) := by
  unfold mirZ
  rw [hI.N hf]
  refine hI.mp hf (fun p hp => ?_) (fun p q h => ?_) (fun i hi => ?_) (fun i hi => rfl)
  · simp only; omega
  · simp only [Prod.mk.injEq] at h
    exact Prod.ext (by omega) h.2
  · rw [fill_lt hi]
theorem tq_rt : ∀ (k : Nat) (p : Int × Int), tq k (rt p) = rt (tq k p)
  | 0, p => rfl
  | k + 1, p => by rw [tq, tq_rt k p]; rfl
theorem mpF_id (M : MZ) (f : Nat) : mpF M f (fun p => p) = M := by
  unfold mpF mF
  refine Prod.ext rfl (Prod.ext rfl (Prod.ext ?_ (Prod.ext ?_ rfl)))
  · funext j; show (if _ then _ else _) = _; split <;> rfl
  · funext j; show (if _ then _ else _) = _; split <;> rfl
theorem Inv.tur {f : Nat} (hf : f < 4) : ∀ (d : Nat) {Z : CZ} {M : MZ}, Inv Z M → Inv (turZ f d Z) (mpF M f (tq d))
  | 0, Z, M, hI => by
    have : mpF M f (tq 0) = M := mpF_id M f
    rw [this]; exact hI
  | d + 1, Z, M, hI => by
    have w := Inv.tur hf d (hI.trn hf)
    rw [mpF_2] at w
    have e : (fun p => tq d (rt p)) = tq (d + 1) := by funext p; rw [tq_rt]; rfl
    rw [e] at w
    exact w
theorem ob_turn {Z : CZ} {M : MZ} (hI : Inv Z M) (f t : Int) : aTurn Z f t = bTurn M f t ∧ Inv (zTurn Z f t) (yTurn M f t) := by
  unfold aTurn bTurn zTurn yTurn
  by_cases h : fB f = true
  · obtain ⟨p, hp, rfl⟩ := fB_t h
    rw [i_nn, hI.N hp, if_pos h]
    refine ⟨rfl, ?_⟩
    by_cases c : 0 ≤ t ∧ t ≤ 7
    · have hc : fB (p : Int) = true ∧ 0 ≤ t ∧ t ≤ 7 := ⟨h, c⟩
      rw [if_pos hc, if_pos hc]
      have ey : ∀ T : Int × Int → Int × Int, (∀ a b, T (a, b) = tn t.toNat a b) → mpF M p T = mF M (tnX (mX M) (mY M) t.toNat (10 * p) (10 * p + mM M p)) (tnY (mX M) (mY M) t.toNat (10 * p) (10 * p + mM M p)) (mM M) := by
        intro T hT
        unfold mpF
        congr 1
        · funext j; unfold tnX; rw [hT]
        · funext j; unfold tnY; rw [hT]
      by_cases c4 : 4 ≤ t
      · rw [if_pos c4]
        have w := Inv.tur hp (t.toNat % 4) (hI.mir hp)
        rw [mpF_2, ey _ (fun a b => by unfold tn; rw [if_pos (by omega)])] at w
        exact w
      · rw [if_neg c4]
        have w := Inv.tur hp (t.toNat % 4) hI
        rw [ey _ (fun a b => by unfold tn; rw [if_neg (by omega)])] at w
        exact w
    · rw [if_neg (fun q => c q.2), if_neg (fun q => c q.2)]; exact hI
  · rw [if_neg h, if_neg h, if_neg (fun q => h q.1), if_neg (fun q => h q.1)]
    exact ⟨rfl, hI⟩
theorem fw_adM {x : Nat → Int} {f n i : Nat} {u : Int} (hi : i < n) : fw (adM x u (10 * f) (10 * f + n)) f i = fw x f i + u := by
  unfold fw adM
  rw [if_pos (by omega)]
theorem fw_adMn {x : Nat → Int} {f g n i : Nat} {u : Int} (hg : g ≠ f) (hn : n ≤ 10) (hi : i < 10) : fw (adM x u (10 * f) (10 * f + n)) g i = fw x g i := by
  unfold fw adM
  rw [if_neg (by omega)]
theorem ofZ_eq {Z : CZ} {M : MZ} (hI : Inv Z M) {f : Nat} (hf : f < 4) (x y : Int) : ofZ Z f x y = anyF (offB (fw (mX M) f) (fw (mY M) f) x y) 0 (mM M f) := by
  unfold ofZ
  rw [hI.N hf]
  refine anyF_c _ _ (fun j h1 h2 => ?_)
  unfold offB
  rw [hI.X hf j (by omega), hI.Y hf j (by omega)]
theorem ob_shift {Z : CZ} {M : MZ} (hI : Inv Z M) (f x y : Int) : aShift Z f x y = bShift M f x y ∧ Inv (zShift Z f x y) (yShift M f x y) := by
  unfold aShift bShift zShift yShift
  rw [show shB x y = sdB x y from rfl]
  by_cases h : fB f = true
  · obtain ⟨p, hp, rfl⟩ := fB_t h
    rw [i_nn, hI.N hp, ofZ_eq hI hp, if_pos h]
    refine ⟨rfl, ?_⟩
    by_cases c : sdB x y = true ∧ anyF (offB (fw (mX M) p) (fw (mY M) p) x y) 0 (mM M p) = false
    · rw [if_pos ⟨h, c⟩, if_pos ⟨h, c⟩]
      have mp := hI.n10 hp
      have D0 := (hI.D hp).ag (hI.X hp).sy (hI.Y hp).sy
      have off := anyF_no _ _ c.2
      refine hI.fld hp mp (fun i hi => ?_) (fun i j hi hj hij => lng_pos ?_) rfl (fun i hi => ?_) (fun i hi => ?_) (fun g hg hgp => ?_)
      · have := off i (by omega) (by omega)
        unfold offB at this
        simp only [Bool.not_eq_false', dotB, decide_eq_true_eq] at this
        rw [fill_lt hi, fill_lt hi, hI.X hp i hi, hI.Y hp i hi]
        omega
      · rw [fill_lt hi, fill_lt hj, fill_lt hi, fill_lt hj]
        exact (D0.ne hi hj hij).imp (fun q => by omega) (fun q => by omega)
      · rw [fill_lt hi, fw_adM hi, hI.X hp i hi]
      · rw [fill_lt hi, fw_adM hi, hI.Y hp i hi]
      · have mg := hI.n10 hg
        exact ⟨rfl, fun i hi => fw_adMn hgp mp (by omega), fun i hi => fw_adMn hgp mp (by omega)⟩
    · rw [if_neg (fun q => c q.2), if_neg (fun q => c q.2)]; exact hI
  · rw [if_neg h, if_neg h, if_neg (fun q => h q.1), if_neg (fun q => h q.1)]
    exact ⟨rfl, hI⟩
theorem kpZ_k {s : Nat} : ∀ (d g : Nat) (Z : CZ), g + d = 4 → (zL (kpZ s d g Z) = zL Z ∧ zB (kpZ s d g Z) = zB Z ∧ zN (kpZ s d g Z) = zN Z ∧ zX (kpZ s d g Z) = zX Z ∧ zY (kpZ s d g Z) = zY Z ∧ zkp (kpZ s d g Z) = zkp Z) ∧ (∀ f, g ≤ f → f < 4 → zKN (kpZ s d g Z) (s * 4 + f) = zN Z f ∧ Ag (zN Z f) (zKX (kpZ s d g Z) (s * 4 + f)) (zX Z f) ∧ Ag (zN Z f) (zKY (kpZ s d g Z) (s * 4 + f)) (zY Z f)) ∧ (∀ k, k < s * 4 + g ∨ s * 4 + 4 ≤ k → zKN (kpZ s d g Z) k = zKN Z k ∧ zKX (kpZ s d g Z) k = zKX Z k ∧ zKY (kpZ s d g Z) k = zKY Z k)
  | 0, g, Z, e => ⟨⟨rfl, rfl, rfl, rfl, rfl, rfl⟩, fun f h1 h2 => by omega, fun k hk => ⟨rfl, rfl, rfl⟩⟩
  | d + 1, g, Z, e => by
    obtain ⟨h1, h2, h3⟩ := kpZ_k (s := s) d (g + 1) (setK Z (s * 4 + g) (zN Z g) (fill (zX Z g) (zKX Z (s * 4 + g)) (zN Z g)) (fill (zY Z g) (zKY Z (s * 4 + g)) (zN Z g))) (by omega)
    rw [kpZ]
    refine ⟨h1, fun f f1 f2 => ?_, fun k hk => ?_⟩
    · by_cases c : f = g
      · subst c
        obtain ⟨q1, q2, q3⟩ := h3 (s * 4 + f) (by omega)
        rw [q1, q2, q3]
        show updA (zKN Z) (s * 4 + f) (zN Z f) (s * 4 + f) = zN Z f ∧ Ag _ (updA (zKX Z) (s * 4 + f) _ (s * 4 + f)) _ ∧ Ag _ (updA (zKY Z) (s * 4 + f) _ (s * 4 + f)) _
        rw [updA_s, updA_s, updA_s]
        exact ⟨rfl, fun i hi => fill_lt hi, fun i hi => fill_lt hi⟩
      · exact h2 f (by omega) f2
    · obtain ⟨q1, q2, q3⟩ := h3 k (by omega)
      rw [q1, q2, q3]
      show updA (zKN Z) (s * 4 + g) (zN Z g) k = _ ∧ updA (zKX Z) (s * 4 + g) _ k = _ ∧ updA (zKY Z) (s * 4 + g) _ k = _
      rw [updA_n (by omega), updA_n (by omega), updA_n (by omega)]
      exact ⟨rfl, rfl, rfl⟩
theorem agZ_k {s : Nat} : ∀ (d g : Nat) (Z : CZ), g + d = 4 → (zL (agZ s d g Z) = zL Z ∧ zB (agZ s d g Z) = zB Z ∧ zKN (agZ s d g Z) = zKN Z ∧ zKX (agZ s d g Z) = zKX Z ∧ zKY (agZ s d g Z) = zKY Z ∧ zkp (agZ s d g Z) = zkp Z) ∧ (∀ f, g ≤ f → f < 4 → zN (agZ s d g Z) f = zKN Z (s * 4 + f) ∧ Ag (zKN Z (s * 4 + f)) (zX (agZ s d g Z) f) (zKX Z (s * 4 + f)) ∧ Ag (zKN Z (s * 4 + f)) (zY (agZ s d g Z) f) (zKY Z (s * 4 + f))) ∧ (∀ k, k < g → zN (agZ s d g Z) k = zN Z k ∧ zX (agZ s d g Z) k = zX Z k ∧ zY (agZ s d g Z) k = zY Z k)
  | 0, g, Z, e => ⟨⟨rfl, rfl, rfl, rfl, rfl, rfl⟩, fun f h1 h2 => by omega, fun k hk => ⟨rfl, rfl, rfl⟩⟩
  | d + 1, g, Z, e => by
    obtain ⟨h1, h2, h3⟩ := agZ_k (s := s) d (g + 1) (setF Z g (zKN Z (s * 4 + g)) (fill (zKX Z (s * 4 + g)) (zX Z g) (zKN Z (s * 4 + g))) (fill (zKY Z (s * 4 + g)) (zY Z g) (zKN Z (s * 4 + g)))) (by omega)
    rw [agZ]
    refine ⟨h1, fun f f1 f2 => ?_, fun k hk => ?_⟩
    · by_cases c : f = g
      · subst c
        obtain ⟨q1, q2, q3⟩ := h3 f (by omega)
        rw [q1, q2, q3]
        show updA (zN Z) f (zKN Z (s * 4 + f)) f = _ ∧ Ag _ (updA (zX Z) f _ f) _ ∧ Ag _ (updA (zY Z) f _ f) _
        rw [updA_s, updA_s, updA_s]
        exact ⟨rfl, fun i hi => fill_lt hi, fun i hi => fill_lt hi⟩
      · exact h2 f (by omega) f2
    · obtain ⟨q1, q2, q3⟩ := h3 k (by omega)
      rw [q1, q2, q3]
      show updA (zN Z) g _ k = _ ∧ updA (zX Z) g _ k = _ ∧ updA (zY Z) g _ k = _
      rw [updA_n (by omega), updA_n (by omega), updA_n (by omega)]
      exact ⟨rfl, rfl, rfl⟩
