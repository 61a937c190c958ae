/-! Corners moved, put in, taken out; turned, shifted; kept and gone on from. -/
theorem Inv.N {Z : CZ} {M : MZ} (hI : Inv Z M) {f : Nat} (hf : f < 4) : zN Z f = mM M f := (hI.r.2.1 f hf).1
theorem Inv.X {Z : CZ} {M : MZ} (hI : Inv Z M) {f : Nat} (hf : f < 4) : Ag (mM M f) (zX Z f) (fw (mX M) f) := (hI.r.2.1 f hf).2.1
theorem Inv.Y {Z : CZ} {M : MZ} (hI : Inv Z M) {f : Nat} (hf : f < 4) : Ag (mM M f) (zY Z f) (fw (mY M) f) := (hI.r.2.1 f hf).2.2
theorem Inv.n10 {Z : CZ} {M : MZ} (hI : Inv Z M) {f : Nat} (hf : f < 4) : mM M f ≤ 10 := (hI.m.2.2 f hf).1
theorem Inv.R {Z : CZ} {M : MZ} (hI : Inv Z M) {f : Nat} (hf : f < 4) : Rg (mM M f) (fw (mX M) f) (fw (mY M) f) := fok_R hI.m.2.2 hf
theorem Inv.D {Z : CZ} {M : MZ} (hI : Inv Z M) {f : Nat} (hf : f < 4) : Dst (mM M f) (fw (mX M) f) (fw (mY M) f) := fun i j hi hj hij => hI.d f hf i j hi hj hij
theorem cB_eq {Z : CZ} {M : MZ} (hI : Inv Z M) (f c : Int) : cB Z f c = cnM (mM M) f c := by
  unfold cB cnM
  by_cases h : fB f = true
  · obtain ⟨p, hp, rfl⟩ := fB_t h
    rw [i_nn, hI.N hp]
  · rw [show fB f = false by simpa using h]; rfl
theorem gB_eq {Z : CZ} {M : MZ} (hI : Inv Z M) (f c : Int) : gB Z f c = gM (mM M) f c := by
  unfold gB gM
  by_cases h : fB f = true
  · obtain ⟨p, hp, rfl⟩ := fB_t h
    rw [i_nn, hI.N hp]
  · rw [show fB f = false by simpa using h]; rfl
theorem cAt_c {n : Nat} {X Y X' Y' : Nat → Int} (hx : Ag n X X') (hy : Ag n Y Y') {u v : Int} : ∀ (d i : Nat), i + d ≤ n → cAtF X Y u v i d = cAtF X' Y' u v i d
  | 0, i, h => rfl
  | d + 1, i, h => by rw [cAtF, cAtF, hx i (by omega), hy i (by omega), cAt_c hx hy d (i + 1) (by omega)]
theorem cAZ_eq {Z : CZ} {M : MZ} (hI : Inv Z M) {f : Nat} (hf : f < 4) (u v : Int) : cAZ Z f u v = cAM M f u v := by
  unfold cAZ cAM
  rw [hI.N hf]
  exact cAt_c (hI.X hf) (hI.Y hf) _ _ (by omega)
theorem ob_corner {Z : CZ} {M : MZ} (hI : Inv Z M) (f c a : Int) : aCorner Z f c a = (if cnM (mM M) f c = true then (if a = 0 then fw (mX M) f.toNat c.toNat else if a = 1 then fw (mY M) f.toNat c.toNat else -2) else -1) := by
  unfold aCorner
  rw [cB_eq hI]
  by_cases h : cnM (mM M) f c = true
  · rw [if_pos h, if_pos h]
    obtain ⟨p, r, hp, hr, rfl, rfl⟩ := cnM_t h
    rw [i_nn, i_nn, hI.X hp r hr, hI.Y hp r hr]
  · rw [if_neg h, if_neg h]
/-- what stands at the corner that was found -/
theorem cAt_at {X Y : Nat → Int} {u v : Int} : ∀ (d i : Nat) (c : Nat), cAtF X Y u v i d = (c : Int) → i ≤ c ∧ c < i + d ∧ X c = u ∧ Y c = v
  | 0, i, c, h => by rw [cAtF] at h; omega
  | d + 1, i, c, h => by
    rw [cAtF] at h
    split at h
    · rename_i q
      have : i = c := by omega
      subst this
      exact ⟨by omega, by omega, q.1, q.2⟩
    · obtain ⟨h1, h2, h3⟩ := cAt_at d (i + 1) c h
      exact ⟨by omega, by omega, h3⟩
theorem cAt_no {X Y : Nat → Int} {u v : Int} : ∀ (d i : Nat), cAtF X Y u v i d = -9 → ∀ j, i ≤ j → j < i + d → X j ≠ u ∨ Y j ≠ v
  | 0, i, h, j, h1, h2 => by omega
  | d + 1, i, h, j, h1, h2 => by
    rw [cAtF] at h
    split at h
    · omega
    · rename_i q
      by_cases e : j = i
      · subst e
        by_cases e2 : X j = u
        · exact Or.inr (fun e3 => q ⟨e2, e3⟩)
        · exact Or.inl e2
      · exact cAt_no d (i + 1) h j (by omega) (by omega)
theorem fw_updZ {x : Nat → Int} {f c i : Nat} {u : Int} : fw (updZ x (10 * f + c) u) f i = updZ (fw x f) c u i := by
  unfold fw updZ
  by_cases e : i = c
  · rw [if_pos (by omega), if_pos e]
  · rw [if_neg (by omega), if_neg e]
theorem fw_updZn {x : Nat → Int} {f g c i : Nat} {u : Int} (hg : g ≠ f) (hc : c < 10) (hi : i < 10) : fw (updZ x (10 * f + c) u) g i = fw x g i := by
  unfold fw updZ
  rw [if_neg (by omega)]
theorem Dst_upd {n : Nat} {X Y : Nat → Int} (h : Dst n X Y) {c : Nat} {u v : Int} (hn : ∀ j, j < n → j ≠ c → X j ≠ u ∨ Y j ≠ v) : Dst n (updZ X c u) (updZ Y c v) := fun i j hi hj hij => lng_pos (by
  by_cases e1 : i = c
  · have e2 : j ≠ c := fun e => hij (by rw [e1, e])
    rw [e1, updZ_s, updZ_s, updZ_n e2, updZ_n e2]
    exact (hn j hj e2).imp Ne.symm Ne.symm
  · rw [updZ_n e1, updZ_n e1]
    by_cases e2 : j = c
    · rw [e2, updZ_s, updZ_s]; exact hn i hi e1
    · rw [updZ_n e2, updZ_n e2]; exact h.ne hi hj hij)
theorem ob_move {Z : CZ} {M : MZ} (hI : Inv Z M) (f c x y : Int) : aMove Z f c x y = bMove M f c x y ∧ Inv (zMove Z f c x y) (yMove M f c x y) := by
  have ea : aMove Z f c x y = bMove M f c x y := by
    unfold aMove bMove
    rw [cB_eq hI]
    by_cases h : cnM (mM M) f c = true
    · rw [if_pos h, if_pos h]
      obtain ⟨p, r, hp, hr, rfl, rfl⟩ := cnM_t h
      rw [i_nn, cAZ_eq hI hp]
    · rw [if_neg h, if_neg h]
  refine ⟨ea, ?_⟩
  unfold zMove yMove
  rw [cB_eq hI]
  by_cases h : cnM (mM M) f c = true
  · obtain ⟨p, r, hp, hr, rfl, rfl⟩ := cnM_t h
    rw [i_nn, i_nn, cAZ_eq hI hp]
    have mp := hI.n10 hp
    have oth : ∀ g, g < 4 → g ≠ p → mM M g = mM M g ∧ Ag (mM M g) (fw (updZ (mX M) (10 * p + r) x) g) (fw (mX M) g) ∧ Ag (mM M g) (fw (updZ (mY M) (10 * p + r) y) g) (fw (mY M) g) := fun g hg hgp => by
      have := hI.n10 hg
      exact ⟨rfl, fun i hi => fw_updZn hgp (by omega) (by omega), fun i hi => fw_updZn hgp (by omega) (by omega)⟩
    by_cases d : dotB x y = true
    · by_cases e : cAM M p x y = -9
      · rw [if_pos ⟨h, d, e⟩, if_pos ⟨h, d, Or.inl e⟩, hI.N hp]
        have no := cAt_no _ _ e
        refine hI.fld hp mp (Rg_upd ((hI.R hp).ag (hI.X hp).sy (hI.Y hp).sy) d) (Dst_upd ((hI.D hp).ag (hI.X hp).sy (hI.Y hp).sy) (fun j hj hjc => by rw [hI.X hp j hj, hI.Y hp j hj]; exact no j (by omega) (by omega))) rfl (fun i hi => ?_) (fun i hi => ?_) oth
        · rw [fw_updZ]
          by_cases e1 : i = r
          · rw [e1, updZ_s, updZ_s]
          · rw [updZ_n e1, updZ_n e1]; exact hI.X hp i hi
        · rw [fw_updZ]
          by_cases e1 : i = r
          · rw [e1, updZ_s, updZ_s]
          · rw [updZ_n e1, updZ_n e1]; exact hI.Y hp i hi
      · rw [if_neg (fun q => e q.2.2)]
        by_cases e2 : cAM M p x y = r
        · rw [if_pos ⟨h, d, Or.inr e2⟩]
          obtain ⟨-, -, a1, a2⟩ := cAt_at _ _ r e2
          have s1 : updZ (mX M) (10 * p + r) x = mX M := by rw [← a1]; exact updZ_e _ _
          have s2 : updZ (mY M) (10 * p + r) y = mY M := by rw [← a2]; exact updZ_e _ _
          rw [s1, s2]
          exact hI
        · rw [if_neg (fun q => q.2.2.elim e e2)]; exact hI
    · rw [if_neg (fun q => d q.2.1), if_neg (fun q => d q.2.1)]; exact hI
  · rw [if_neg (fun q => h q.1), if_neg (fun q => h q.1)]; exact hI
theorem fw_shM {x : Nat → Int} {f n c i : Nat} : fw (shM x (10 * f + c) (10 * f + n)) f i = shf (fw x f) n c i := by
  unfold fw shM shf
  by_cases e : c < i ∧ i ≤ n
  · rw [if_pos (by omega), if_pos e]; congr 1; omega
  · rw [if_neg (by omega), if_neg e]
theorem fw_shMn {x : Nat → Int} {f g n c i : Nat} (hg : g ≠ f) (hn : n < 10) (hi : i < 10) : fw (shM x (10 * f + c) (10 * f + n)) g i = fw x g i := by
  unfold fw shM
  rw [if_neg (by omega)]
theorem shf_ag {n : Nat} {X X' : Nat → Int} (h : Ag n X X') {c : Nat} {u : Int} (hc : c ≤ n) : Ag (n + 1) (updZ (shf X n c) c u) (updZ (shf X' n c) c u) := fun i hi => by
  by_cases e : i = c
  · rw [e, updZ_s, updZ_s]
  · rw [updZ_n e, updZ_n e]
    unfold shf
    by_cases e2 : c < i ∧ i ≤ n
    · rw [if_pos e2, if_pos e2]; exact h _ (by omega)
    · rw [if_neg e2, if_neg e2]; exact h _ (by omega)
/-- the corner that corner i was before one was put in at c -/
theorem shf_at {X : Nat → Int} {n c i : Nat} (hi : i < n + 1) (hc : c ≤ n) (e : i ≠ c) : shf X n c i = X (if c < i then i - 1 else i) := by
  unfold shf
  by_cases e2 : c < i
  · rw [if_pos ⟨e2, by omega⟩, if_pos e2]
  · rw [if_neg (fun q => e2 q.1), if_neg e2]
theorem Dst_put {n : Nat} {X Y : Nat → Int} (h : Dst n X Y) {c : Nat} {u v : Int} (hc : c ≤ n) (hn : ∀ j, j < n → X j ≠ u ∨ Y j ≠ v) : Dst (n + 1) (updZ (shf X n c) c u) (updZ (shf Y n c) c v) := fun i j hi hj hij => lng_pos (by
  have lt : ∀ k, k < n + 1 → k ≠ c → (if c < k then k - 1 else k) < n := fun k hk hkc => by split <;> omega
  by_cases e1 : i = c
  · have e2 : j ≠ c := fun e => hij (by rw [e1, e])
    rw [e1, updZ_s, updZ_s, updZ_n e2, updZ_n e2, shf_at hj hc e2, shf_at hj hc e2]
    exact (hn _ (lt j hj e2)).imp Ne.symm Ne.symm
  · rw [updZ_n e1, updZ_n e1, shf_at hi hc e1, shf_at hi hc e1]
    by_cases e2 : j = c
    · rw [e2, updZ_s, updZ_s]; exact hn _ (lt i hi e1)
    · rw [updZ_n e2, updZ_n e2, shf_at hj hc e2, shf_at hj hc e2]
      exact h.ne (lt i hi e1) (lt j hj e2) (by split <;> split <;> omega))
theorem ob_put {Z : CZ} {M : MZ} (hI : Inv Z M) (f c x y : Int) : aPut Z f c x y = bPut M f c x y ∧ Inv (zPut Z f c x y) (yPut M f c x y) := by
  unfold aPut bPut zPut yPut
  rw [gB_eq hI]
  by_cases h : gM (mM M) f c = true
  · have h2 := h
    simp only [gM, Bool.and_eq_true, decide_eq_true_eq] at h2
    obtain ⟨p, hp, rfl⟩ := fB_t h2.1
    rw [i_nn] at *
    obtain ⟨r, rfl⟩ : ∃ r : Nat, c = (r : Int) := ⟨c.toNat, by omega⟩
    rw [i_nn, cAZ_eq hI hp, hI.N hp]
    refine ⟨rfl, ?_⟩
    have mp := hI.n10 hp
    by_cases d : dotB x y = true ∧ cAM M p x y = -9 ∧ mM M p < 10
    · rw [if_pos ⟨h, d⟩, if_pos ⟨h, d⟩]
      obtain ⟨d1, d2, d3⟩ := d
      have no := cAt_no _ _ d2
      have rr : r ≤ mM M p := by omega
      have hR : Rg (mM M p + 1) (updZ (shf (zX Z p) (mM M p) r) r x) (updZ (shf (zY Z p) (mM M p) r) r y) := by
        have R0 := (hI.R hp).ag (hI.X hp).sy (hI.Y hp).sy
        simp only [dotB, decide_eq_true_eq] at d1
        intro i hi
        by_cases e : i = r
        · subst e; rw [updZ_s, updZ_s]; omega
        · rw [updZ_n e, updZ_n e, shf_at hi rr e, shf_at hi rr e]
          exact R0 _ (by split <;> omega)
      refine hI.fld hp (by omega) hR (Dst_put ((hI.D hp).ag (hI.X hp).sy (hI.Y hp).sy) rr (fun j hj => by rw [hI.X hp j hj, hI.Y hp j hj]; exact no j (by omega) (by omega))) (updA_s _ _ _) (fun i hi => ?_) (fun i hi => ?_) (fun g hg hgp => ?_)
      · rw [fw_updZ, shf_ag (hI.X hp) rr i hi]
        by_cases e : i = r
        · rw [e, updZ_s, updZ_s]
        · rw [updZ_n e, updZ_n e, fw_shM]
      · rw [fw_updZ, shf_ag (hI.Y hp) rr i hi]
        by_cases e : i = r
        · rw [e, updZ_s, updZ_s]
        · rw [updZ_n e, updZ_n e, fw_shM]
      · have mg := hI.n10 hg
        rw [updA_n hgp]
        exact ⟨rfl, fun i hi => by rw [fw_updZn hgp (by omega) (by omega), fw_shMn hgp d3 (by omega)], fun i hi => by rw [fw_updZn hgp (by omega) (by omega), fw_shMn hgp d3 (by omega)]⟩
    · rw [if_neg (fun q => d q.2), if_neg (fun q => d q.2)]; exact hI
  · rw [if_neg h, if_neg h, if_neg (fun q => h q.1), if_neg (fun q => h q.1)]
    exact ⟨rfl, hI⟩
theorem fw_rmM {x : Nat → Int} {f n c i : Nat} : fw (rmM x (10 * f + c) (10 * f + n)) f i = rmv (fw x f) c n i := by
  unfold fw rmM rmv
  by_cases e : c ≤ i ∧ i < n
  · rw [if_pos (by omega), if_pos e]; congr 1
  · rw [if_neg (by omega), if_neg e]
theorem fw_rmMn {x : Nat → Int} {f g n c i : Nat} (hg : g ≠ f) (hn : n < 10) (hi : i < 10) : fw (rmM x (10 * f + c) (10 * f + n)) g i = fw x g i := by
  unfold fw rmM
  rw [if_neg (by omega)]
theorem rmv_at {X : Nat → Int} {n c i : Nat} (hi : i < n) : rmv X c n i = X (if c ≤ i then i + 1 else i) := by
  unfold rmv
  by_cases e : c ≤ i
  · rw [if_pos ⟨e, hi⟩, if_pos e]
  · rw [if_neg (fun q => e q.1), if_neg e]
theorem ob_take {Z : CZ} {M : MZ} (hI : Inv Z M) (f c : Int) : aTake Z f c = bTake M f c ∧ Inv (zTake Z f c) (yTake M f c) := by
  unfold aTake bTake zTake yTake
  rw [cB_eq hI]
  by_cases h : cnM (mM M) f c = true
  · obtain ⟨p, r, hp, hr, rfl, rfl⟩ := cnM_t h
    rw [i_nn, i_nn, hI.N hp]
    refine ⟨rfl, ?_⟩
    have mp := hI.n10 hp
    by_cases d : 3 < mM M p
    · rw [if_pos ⟨h, d⟩, if_pos ⟨h, d⟩]
      have D0 := (hI.D hp).ag (hI.X hp).sy (hI.Y hp).sy
      have R0 := (hI.R hp).ag (hI.X hp).sy (hI.Y hp).sy
      refine hI.fld hp (by omega) (fun i hi => ?_) (fun i j hi hj hij => lng_pos ?_) (updA_s _ _ _) (fun i hi => ?_) (fun i hi => ?_) (fun g hg hgp => ?_)
      · rw [rmv_at hi, rmv_at hi]; exact R0 _ (by split <;> omega)
      · rw [rmv_at hi, rmv_at hi, rmv_at hj, rmv_at hj]
        exact D0.ne (by split <;> omega) (by split <;> omega) (by split <;> split <;> omega)
      · rw [fw_rmM, rmv_at hi, rmv_at hi]; exact hI.X hp _ (by split <;> omega)
      · rw [fw_rmM, rmv_at hi, rmv_at hi]; exact hI.Y hp _ (by split <;> omega)
      · have mg := hI.n10 hg
        rw [updA_n hgp]
        exact ⟨rfl, fun i hi => fw_rmMn hgp (by omega) (by omega), fun i hi => fw_rmMn hgp (by omega) (by omega)⟩
    · rw [if_neg (fun q => d q.2), if_neg (fun q => d q.2)]; exact hI
  · rw [if_neg h, if_neg h, if_neg (fun q => h q.1), if_neg (fun q => h q.1)]
    exact ⟨rfl, hI⟩
