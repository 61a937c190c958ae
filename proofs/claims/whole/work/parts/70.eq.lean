/-! The text's calls and those that write one field. -/
theorem lng_pos {X Y : Nat → Int} {i j : Nat} (h : X i ≠ X j ∨ Y i ≠ Y j) : 0 < lng X Y i j := by
  unfold lng
  have h1 := sq_nn (X i - X j)
  have h2 := sq_nn (Y i - Y j)
  rcases h with h | h
  · have : 0 < (X i - X j) * (X i - X j) := by
      rcases Int.lt_or_gt_of_ne h with q | q
      · exact Int.mul_pos_of_neg_of_neg (by omega) (by omega)
      · exact Int.mul_pos (by omega) (by omega)
    omega
  · have : 0 < (Y i - Y j) * (Y i - Y j) := by
      rcases Int.lt_or_gt_of_ne h with q | q
      · exact Int.mul_pos_of_neg_of_neg (by omega) (by omega)
      · exact Int.mul_pos (by omega) (by omega)
    omega
theorem lng_ne {X Y : Nat → Int} {i j : Nat} (h : 0 < lng X Y i j) : X i ≠ X j ∨ Y i ≠ Y j := by
  by_cases c : X i = X j
  · right
    intro c2
    unfold lng at h
    rw [c, c2, Int.sub_self, Int.sub_self] at h
    simp at h
  · exact Or.inl c
theorem Dst.ne {n : Nat} {X Y : Nat → Int} (h : Dst n X Y) {i j : Nat} (hi : i < n) (hj : j < n) (hij : i ≠ j) : X i ≠ X j ∨ Y i ≠ Y j := lng_ne (h i j hi hj hij)
theorem Dst.ag {n : Nat} {X Y X' Y' : Nat → Int} (h : Dst n X Y) (hx : Ag n X X') (hy : Ag n Y Y') : Dst n X' Y' := fun i j hi hj hij => lng_pos (by rw [← hx i hi, ← hx j hj, ← hy i hi, ← hy j hj]; exact h.ne hi hj hij)
theorem Rg.ag {n : Nat} {X Y X' Y' : Nat → Int} (h : Rg n X Y) (hx : Ag n X X') (hy : Ag n Y Y') : Rg n X' Y' := fun i hi => by rw [← hx i hi, ← hy i hi]; exact h i hi
theorem Ag.sy {n : Nat} {X X' : Nat → Int} (h : Ag n X X') : Ag n X' X := fun i hi => (h i hi).symm
theorem Ag.tr {n : Nat} {X X' X'' : Nat → Int} (h : Ag n X X') (h' : Ag n X' X'') : Ag n X X'' := fun i hi => (h i hi).trans (h' i hi)
theorem Inv.txt {Z : CZ} {M : MZ} (hI : Inv Z M) {L : Nat} {B B' : Nat → Int} (hL : L ≤ 24) (h1 : Byt B L) (h2 : Byt B' L) (ha : Ag L B B') : Inv (setT Z L B) (mT M L B') := ⟨hI.z.txt hL h1, ⟨hL, h2, hI.m.2.2⟩, hI.d, hI.k, ⟨rfl, ha⟩, hI.r.2.1, hI.r.2.2.1, hI.r.2.2.2⟩
theorem ob_write {Z : CZ} {M : MZ} (hI : Inv Z M) (n : Int) (v : Int64) : aWrite Z n = bWrite M n ∧ Inv (zWrite Z n v) (yWrite M n v) := by
  obtain ⟨eL, aB⟩ := hI.r.1
  refine ⟨by unfold aWrite bWrite; rw [eL], ?_⟩
  unfold zWrite yWrite
  rw [eL]
  by_cases c : 1 ≤ n ∧ n ≤ 8 ∧ (mL M : Int) + n ≤ 24
  · rw [if_pos c, if_pos c]
    refine hI.txt (by omega) (apF_byt (by rw [← eL]; exact hI.z.B)) (apF_byt hI.m.2.1) (fun j hj => ?_)
    unfold apF
    split
    · rfl
    · exact aB j (by omega)
  · rw [if_neg c, if_neg c]; exact hI
theorem ob_wipe {Z : CZ} {M : MZ} (hI : Inv Z M) : zL Z = mL M ∧ Inv (setT Z 0 (zB Z)) (mT M 0 (mB M)) := ⟨hI.r.1.1, hI.txt (by omega) (fun j hj => by omega) (fun j hj => by omega) (fun j hj => by omega)⟩
theorem vM_neg (z : Int) : vM z < 0 ↔ vOf z = -9 := by unfold vM vOf; (repeat' split) <;> omega
theorem vM_v {z : Int} (h : vOf z ≠ -9) : vM z = vOf z := by unfold vM; rw [if_neg h]
theorem vOf_inj {a b : Int} (ha : vOf a ≠ -9) (hb : vOf b ≠ -9) (h : vOf a = vOf b) : a = b := by
  unfold vOf at *
  (repeat' split at *) <;> omega
theorem told_eq {B : Nat → Int} {i : Nat} (hv : ∀ j, j ≤ i → vOf (B j) ≠ -9) (ho : i % 2 = 1) : told B i = anyF (tdM (vX B) (vY B) (vM (B (i - 1))) (vM (B i))) 0 (i / 2) := by
  unfold told
  refine anyF_c _ _ (fun j h1 h2 => ?_)
  unfold tldP tdM vX vY
  rw [vM_v (hv (2 * j) (by omega)), vM_v (hv (2 * j + 1) (by omega)), vM_v (hv (i - 1) (by omega)), vM_v (hv i (by omega))]
  congr 1
  · exact decide_eq_decide.mpr ⟨fun q => by rw [q], fun q => vOf_inj (hv _ (by omega)) (hv _ (by omega)) q⟩
  · exact decide_eq_decide.mpr ⟨fun q => by rw [q], fun q => vOf_inj (hv _ (by omega)) (hv _ (by omega)) q⟩
theorem fty_eq {B : Nat → Int} {i : Nat} (hi : i < 20) (hv : ∀ j, j < i → vOf (B j) ≠ -9) : fty B i = ftM B i := by
  unfold fty ftM
  rw [decide_eq_false (show ¬ 20 ≤ i by omega), decide_eq_false (show ¬ i / 2 = 10 by omega), Bool.false_or, Bool.or_false]
  by_cases c : vOf (B i) = -9
  · rw [decide_eq_true c, decide_eq_true ((vM_neg _).mpr c)]; rfl
  · rw [decide_eq_false c, decide_eq_false (fun q => c ((vM_neg _).mp q)), Bool.false_or, Bool.false_or]
    by_cases o : i % 2 = 1
    · have hv2 : ∀ j, j ≤ i → vOf (B j) ≠ -9 := fun j hj => by
        by_cases e : j = i
        · subst e; exact c
        · exact hv j (by omega)
      rw [told_eq hv2 o]
    · rw [decide_eq_false o]; rfl
theorem ffF_eq {B : Nat → Int} {L : Nat} : ∀ (d i : Nat), i + d = L → i ≤ 20 → (∀ j, j < i → vOf (B j) ≠ -9) → ffF B L i d = rtM B L i d
  | 0, i, e, h, hv => by
    rw [ffF, rtM]
    by_cases c : 6 ≤ L ∧ L % 2 = 0
    · rw [if_pos c, if_neg (by omega)]
    · rw [if_neg c, if_pos (by omega)]
  | d + 1, i, e, h, hv => by
    rw [ffF, rtM]
    by_cases c : i = 20
    · subst c
      rw [if_pos (by unfold fty; simp), if_pos (by unfold ftM; simp)]
    · rw [fty_eq (by omega) hv]
      by_cases c2 : ftM B i = true
      · rw [if_pos c2, if_pos c2]
      · rw [if_neg c2, if_neg c2]
        refine ffF_eq d (i + 1) (by omega) (by omega) (fun j hj => ?_)
        by_cases e2 : j = i
        · subst e2
          intro q
          apply c2
          unfold ftM
          rw [decide_eq_true ((vM_neg _).mpr q)]
          simp
        · exact hv j (by omega)
theorem fty_c {B B' : Nat → Int} {L i : Nat} (ha : Ag L B B') (hi : i < L) : fty B i = fty B' i := by
  unfold fty told
  rw [ha i hi]
  congr 2
  refine anyF_c _ _ (fun j h1 h2 => ?_)
  unfold tldP
  rw [ha (2 * j) (by omega), ha (2 * j + 1) (by omega), ha (i - 1) (by omega), ha i hi]
theorem ffF_c {B B' : Nat → Int} {L : Nat} (ha : Ag L B B') : ∀ (d i : Nat), i + d = L → ffF B L i d = ffF B' L i d
  | 0, i, e => rfl
  | d + 1, i, e => by rw [ffF, ffF, fty_c ha (by omega), ffF_c ha d (i + 1) (by omega)]
theorem ob_fault {Z : CZ} {M : MZ} (hI : Inv Z M) : aFault Z = bFault M := by
  obtain ⟨eL, aB⟩ := hI.r.1
  unfold aFault bFault
  rw [eL, ffF_c aB _ _ (by omega), ffF_eq _ _ (by omega) (by omega) (fun j hj => by omega)]
theorem Inv.fld {Z : CZ} {M : MZ} (hI : Inv Z M) {f n : Nat} {X Y x y : Nat → Int} {m : Nat → Nat} (hf : f < 4) (hn : n ≤ 10) (hR : Rg n X Y) (hD : Dst n X Y) (em : m f = n) (ax : Ag n X (fw x f)) (ay : Ag n Y (fw y f)) (eo : ∀ g, g < 4 → g ≠ f → m g = mM M g ∧ Ag (m g) (fw x g) (fw (mX M) g) ∧ Ag (m g) (fw y g) (fw (mY M) g)) : Inv (setF Z f n X Y) (mF M x y m) := by
  have key : ∀ g, g < 4 → m g ≤ 10 ∧ Rg (m g) (fw x g) (fw y g) ∧ Dst (m g) (fw x g) (fw y g) := by
    intro g hg
    by_cases e : g = f
    · subst e; rw [em]; exact ⟨hn, hR.ag ax ay, hD.ag ax ay⟩
    · obtain ⟨e1, e2, e3⟩ := eo g hg e
      rw [e1] at e2 e3 ⊢
      exact ⟨(hI.m.2.2 g hg).1, (fok_R hI.m.2.2 hg).ag e2.sy e3.sy, Dst.ag (fun i j hi hj hij => hI.d g hg i j hi hj hij) e2.sy e3.sy⟩
  refine ⟨hI.z.fld hn hR, ⟨hI.m.1, hI.m.2.1, fun g hg => ⟨(key g hg).1, fun i hi => ?_⟩⟩, fun g hg i j hi hj hij => (key g hg).2.2 i j hi hj hij, hI.k, hI.r.1, fun g hg => ?_, hI.r.2.2.1, hI.r.2.2.2⟩
  · obtain ⟨q1, q2, q3, q4⟩ := (key g hg).2.1 i hi
    exact ⟨⟨q1, q2⟩, q3, q4⟩
  · show updA (zN Z) f n g = m g ∧ Ag (m g) (updA (zX Z) f X g) (fw x g) ∧ Ag (m g) (updA (zY Z) f Y g) (fw y g)
    by_cases e : g = f
    · subst e
      rw [updA_s, updA_s, updA_s, em]
      exact ⟨rfl, ax, ay⟩
    · obtain ⟨e1, e2, e3⟩ := eo g hg e
      obtain ⟨r1, r2, r3⟩ := hI.r.2.1 g hg
      rw [updA_n e, updA_n e, updA_n e]
      rw [e1] at e2 e3 ⊢
      exact ⟨r1, r2.tr e2.sy, r3.tr e3.sy⟩
theorem fw_p10 {x g : Nat → Int} {f n i : Nat} (hi : i < n) : fw (p10 x f g n) f i = g i := by
  unfold fw p10
  rw [if_pos (by omega)]
  congr 1; omega
theorem fw_p10n {x g : Nat → Int} {f k n i : Nat} (hn : n ≤ 10) (hi : i < 10) (hk : k ≠ f) : fw (p10 x f g n) k i = fw x k i := by
  unfold fw p10
  rw [if_neg (by omega)]
theorem ob_field {Z : CZ} {M : MZ} (hI : Inv Z M) (f : Int) : aField Z f = bField M f ∧ Inv (zField Z f) (yField M f) := by
  obtain ⟨eL, aB⟩ := hI.r.1
  have eF := ob_fault hI
  refine ⟨by unfold aField bField; rw [eF, eL], ?_⟩
  unfold zField yField
  have eF2 := eF
  rw [eF, eL]
  by_cases c : fB f = true ∧ bFault M = -9
  · rw [if_pos c, if_pos c]
    obtain ⟨p, hp, rfl⟩ := fB_t c.1
    rw [i_nn]
    have c2 := c.2
    rw [← eF] at c2
    obtain ⟨h1, h2, h3, h4⟩ := fault_no c2
    rw [eL] at h1 h2 h3 h4
    have vv : ∀ j, j < mL M → vOf (zB Z j) ≠ -9 := fun j hj q => by
      have := h4 j hj
      unfold fty at this
      rw [decide_eq_true q] at this
      simp at this
    have hR : Rg (mL M / 2) (fill (fun j => vOf (zB Z (2 * j))) (zX Z p) (mL M / 2)) (fill (fun j => vOf (zB Z (2 * j + 1))) (zY Z p) (mL M / 2)) := by
      intro i hi
      rw [fill_lt hi, fill_lt hi]
      have a := fty_v (h4 (2 * i) (by omega))
      have b := fty_v (h4 (2 * i + 1) (by omega))
      exact ⟨a.1, a.2, b.1, b.2⟩
    have dd : ∀ i j, i < j → j < mL M / 2 → vOf (zB Z (2 * i)) ≠ vOf (zB Z (2 * j)) ∨ vOf (zB Z (2 * i + 1)) ≠ vOf (zB Z (2 * j + 1)) := by
      intro i j hij hj
      have t := h4 (2 * j + 1) (by omega)
      unfold fty at t
      simp only [Bool.or_eq_false_iff, Bool.and_eq_false_iff] at t
      have t2 : told (zB Z) (2 * j + 1) = false := by
        rcases t.2 with q | q
        · exact absurd q (by rw [decide_eq_true (by omega)]; decide)
        · exact q
      refine Classical.byContradiction fun q => ?_
      have q1 : vOf (zB Z (2 * i)) = vOf (zB Z (2 * j)) := Classical.byContradiction fun z => q (Or.inl z)
      have q2 : vOf (zB Z (2 * i + 1)) = vOf (zB Z (2 * j + 1)) := Classical.byContradiction fun z => q (Or.inr z)
      have r1 := vOf_inj (vv _ (by omega)) (vv _ (by omega)) q1
      have r2 := vOf_inj (vv _ (by omega)) (vv _ (by omega)) q2
      have : told (zB Z) (2 * j + 1) = true := by
        unfold told
        rw [anyF_iff]
        refine ⟨i, by omega, by omega, ?_⟩
        unfold tldP
        rw [show 2 * j + 1 - 1 = 2 * j by omega, decide_eq_true r1, decide_eq_true r2]; rfl
      rw [t2] at this; cases this
    refine hI.fld hp (by omega) hR (fun i j hi hj hij => lng_pos ?_) (updA_s _ _ _) (fun i hi => ?_) (fun i hi => ?_) (fun g hg hgf => ?_)
    · rw [fill_lt hi, fill_lt hj, fill_lt hi, fill_lt hj]
      rcases Nat.lt_or_gt_of_ne hij with q | q
      · exact dd i j q hj
      · exact (dd j i q hi).imp Ne.symm Ne.symm
    · rw [fill_lt hi, fw_p10 hi, vX, ← aB (2 * i) (by omega), vM_v (vv _ (by omega))]
    · rw [fill_lt hi, fw_p10 hi, vY, ← aB (2 * i + 1) (by omega), vM_v (vv _ (by omega))]
    · have mg := (hI.m.2.2 g hg).1
      rw [updA_n hgf]
      exact ⟨rfl, fun i hi => fw_p10n (by omega) (by omega) hgf, fun i hi => fw_p10n (by omega) (by omega) hgf⟩
  · rw [if_neg c, if_neg c]; exact hI
