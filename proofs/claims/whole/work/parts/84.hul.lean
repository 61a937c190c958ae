/-! Promise of the hull: class and reference alike. -/
theorem ob_hull {Z : CZ} {M : MZ} (hI : Inv Z M) (f g : Int) : ∃ N : Nat, (∀ r : Nat, r < 4 → g = (r : Int) → (hu1 (fw (mX M) r) (fw (mY M) r) (mM M r)).2 = false → hNo (fw (mX M) r) (fw (mY M) r) (mM M r) N) ∧ aHull Z f g = bHull M f g N ∧ Inv (zHull Z f g) (yHull M f g N) := by
  by_cases hg : fB g = true
  · obtain ⟨q, hq, rfl⟩ := fB_t hg
    have el : inLine (zX Z q) (zY Z q) (zN Z q) = (hu1 (fw (mX M) q) (fw (mY M) q) (mM M q)).2 := by
      rw [hI.N hq, inLine_c (hI.X hq) (hI.Y hq), line_eq]
    by_cases ln : (hu1 (fw (mX M) q) (fw (mY M) q) (mM M q)).2 = false
    · have hn : 2 ≤ mM M q := by
        refine Classical.byContradiction fun z => ?_
        have t := (hu1_b (X := fw (mX M) q) (Y := fw (mY M) q) (N := mM M q) (mM M q) 0 (0, true)).mpr ⟨rfl, fun c h1 h2 => Or.inl (by omega)⟩
        unfold hu1 at ln
        rw [ln] at t
        cases t
      have hD := hI.D hq
      have n10 := hI.n10 hq
      obtain ⟨N, N1, N2, N3, N4⟩ := hu_back hn hD
      have eZ : hlZ Z q = hlL (fw (mX M) q) (fw (mY M) q) (mM M q) (hu1 (fw (mX M) q) (fw (mY M) q) (mM M q)).1 (mM M q) (huC (fw (mX M) q) (fw (mY M) q) (mM M q) 0) := by
        unfold hlZ
        have l := (hu_edg hn hD 0).1
        have e : huC (fw (mX M) q) (fw (mY M) q) (mM M q) 0 = (hu1 (fw (mX M) q) (fw (mY M) q) (mM M q)).1 := rfl
        rw [e] at l ⊢
        rw [hI.N hq, hst_c (hI.X hq) (hI.Y hq) (by omega), hst_eq (by omega), hlL_c (hI.X hq) (hI.Y hq) _ _ l]
      obtain ⟨l1, l2⟩ := hl_eq hn hD N3 N4 (mM M q) 0 (by omega) (by omega)
      rw [← eZ, Nat.sub_zero] at l1 l2
      refine ⟨N, fun r hr er _ => ?_, ?_, ?_⟩
      · obtain rfl : q = r := by omega
        exact ⟨N1, by omega, N3, N4⟩
      · unfold aHull bHull
        rw [i_nn, el, l1]
      · unfold zHull yHull
        rw [i_nn, el]
        by_cases hf : fB f = true
        · obtain ⟨p, hp, rfl⟩ := fB_t hf
          rw [if_pos ⟨hf, hg, ln⟩, if_pos ⟨hf, hg, ln⟩, i_nn, l1]
          have lt : ∀ j, huC (fw (mX M) q) (fw (mY M) q) (mM M q) j < mM M q := fun j => (hu_edg hn hD j).1
          have gx : ∀ j, j < N → fill (fun j => zX Z q ((hlZ Z q).getD j 0)) (zX Z p) N j = fw (mX M) q (huC (fw (mX M) q) (fw (mY M) q) (mM M q) j) := fun j hj => by
            unfold fill
            rw [if_pos hj]
            show zX Z q ((hlZ Z q).getD j 0) = _
            rw [l2 j hj, Nat.zero_add, hI.X hq _ (lt j)]
          have gy : ∀ j, j < N → fill (fun j => zY Z q ((hlZ Z q).getD j 0)) (zY Z p) N j = fw (mY M) q (huC (fw (mX M) q) (fw (mY M) q) (mM M q) j) := fun j hj => by
            unfold fill
            rw [if_pos hj]
            show zY Z q ((hlZ Z q).getD j 0) = _
            rw [l2 j hj, Nat.zero_add, hI.Y hq _ (lt j)]
          have df : ∀ i j, i < j → j < N → huC (fw (mX M) q) (fw (mY M) q) (mM M q) i ≠ huC (fw (mX M) q) (fw (mY M) q) (mM M q) j := fun i j h1 h2 e => by
            obtain ⟨d, rfl⟩ : ∃ d, j = i + d := ⟨j - i, by omega⟩
            exact N4 d (by omega) (by omega) (hu_inj hn hD i d e)
          refine hI.fld hp (by omega) (fun i hi => ?_) (fun i j hi hj hij => ?_) (updA_s _ _ _) (fun i hi => ?_) (fun i hi => ?_) (fun k hk hkp => ?_)
          · rw [gx i hi, gy i hi]
            exact hI.R hq _ (lt i)
          · refine lng_pos ?_
            rw [gx i hi, gx j hj, gy i hi, gy j hj]
            refine hD.ne (lt i) (lt j) ?_
            rcases Nat.lt_or_gt_of_ne hij with w | w
            · exact df i j w hj
            · exact (df j i w hi).symm
          · rw [gx i hi, fw_p10 hi]
          · rw [gy i hi, fw_p10 hi]
          · have mk := hI.n10 hk
            rw [updA_n hkp]
            exact ⟨rfl, fun i hi => by rw [fw_p10n (by omega) (by omega) hkp], fun i hi => by rw [fw_p10n (by omega) (by omega) hkp]⟩
        · rw [if_neg (fun z => hf z.1), if_neg (fun z => hf z.1)]
          exact hI
    · refine ⟨0, fun r hr er z => ?_, ?_, ?_⟩
      · obtain rfl : q = r := by omega
        exact absurd z ln
      · unfold aHull bHull
        rw [i_nn, el, if_neg ln, if_neg ln]
      · unfold zHull yHull
        rw [i_nn, el, if_neg (fun z => ln z.2.2), if_neg (fun z => ln z.2.2)]
        exact hI
  · refine ⟨0, fun r hr er z => ?_, ?_, ?_⟩
    · exact absurd (by rw [er]; unfold fB; exact decide_eq_true (by omega)) hg
    · unfold aHull bHull
      rw [if_neg (fun z => hg z.2), if_neg (fun z => hg z.2)]
    · unfold zHull yHull
      rw [if_neg (fun z => hg z.2.1), if_neg (fun z => hg z.2.1)]
      exact hI
