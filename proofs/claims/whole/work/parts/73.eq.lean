/-! Kept and gone on from. -/
theorem Inv.kps {Z W : CZ} {M : MZ} (hI : Inv Z M) {b kp : Nat → Bool} {kx ky : Nat → Int} {km : Nat → Nat} (ok : Zok (setB W b)) (k1 : zL W = zL Z) (k2 : zB W = zB Z) (k3 : zN W = zN Z) (k4 : zX W = zX Z) (k5 : zY W = zY Z) (hk : ∀ s, s < 2 → kp s = true → ∀ f, f < 4 → km (4 * s + f) ≤ 10 ∧ Rg (km (4 * s + f)) (kw kx (4 * s + f)) (kw ky (4 * s + f)) ∧ Dst (km (4 * s + f)) (kw kx (4 * s + f)) (kw ky (4 * s + f))) (e1 : ∀ s, s < 2 → b s = kp s) (e2 : ∀ s, s < 2 → kp s = true → ∀ f, f < 4 → zKN W (4 * s + f) = km (4 * s + f) ∧ Ag (km (4 * s + f)) (zKX W (4 * s + f)) (kw kx (4 * s + f)) ∧ Ag (km (4 * s + f)) (zKY W (4 * s + f)) (kw ky (4 * s + f))) : Inv (setB W b) (mKp M kp kx ky km) := by
  refine ⟨ok, ⟨hI.m.1, hI.m.2.1, hI.m.2.2⟩, hI.d, hk, ⟨k1.trans hI.r.1.1, ?_⟩, ?_, e1, e2⟩
  · intro i hi
    show zB W i = mB M i
    rw [k2]; exact hI.r.1.2 i hi
  · intro f hf
    show zN W f = mM M f ∧ Ag (mM M f) (zX W f) (fw (mX M) f) ∧ Ag (mM M f) (zY W f) (fw (mY M) f)
    rw [k3, k4, k5]; exact hI.r.2.1 f hf
theorem ob_keep {Z : CZ} {M : MZ} (hI : Inv Z M) (s : Int) : aKeep Z s = bKeep M s ∧ Inv (zKeep Z s) (yKeep M s) := by
  have ok := zKeep_ok hI.z s
  unfold aKeep bKeep zKeep yKeep at *
  by_cases c : 0 ≤ s ∧ s ≤ 1
  · have c2 : 0 ≤ s ∧ s < 2 := by omega
    rw [if_pos c2] at ok
    rw [if_pos c, if_pos c2, if_pos c2, if_pos c]
    obtain ⟨r, rfl⟩ : ∃ r : Nat, s = (r : Int) := ⟨s.toNat, by omega⟩
    rw [i_nn] at *
    obtain ⟨⟨k1, k2, k3, k4, k5, k6⟩, h2, h3⟩ := kpZ_k (s := r) 4 0 Z (by omega)
    generalize kpZ r 4 0 Z = W at *
    refine ⟨by unfold allN; rw [k3, hI.N (f := 0) (by omega), hI.N (f := 1) (by omega), hI.N (f := 2) (by omega), hI.N (f := 3) (by omega)], hI.kps ok k1 k2 k3 k4 k5 ?_ ?_ ?_⟩
    · intro s' hs' hk f hf
      by_cases e : s' = r
      · subst e
        have e1 : cpy (mM M) (mKM M) (4 * s') 4 (4 * s' + f) = mM M f := by unfold cpy; rw [if_pos (by omega)]; congr 1; omega
        have n1 := hI.n10 hf
        have ex : Ag (mM M f) (fw (mX M) f) (kw (cpy (mX M) (mKX M) (40 * s') 40) (4 * s' + f)) := fun i hi => by unfold kw cpy fw; rw [if_pos (by omega)]; congr 1; omega
        have ey : Ag (mM M f) (fw (mY M) f) (kw (cpy (mY M) (mKY M) (40 * s') 40) (4 * s' + f)) := fun i hi => by unfold kw cpy fw; rw [if_pos (by omega)]; congr 1; omega
        rw [e1]
        exact ⟨n1, (hI.R hf).ag ex ey, (hI.D hf).ag ex ey⟩
      · have hk' : mkp M s' = true := by
          have : updA (mkp M) r true s' = true := hk
          rwa [updA_n e] at this
        have e1 : cpy (mM M) (mKM M) (4 * r) 4 (4 * s' + f) = mKM M (4 * s' + f) := by unfold cpy; rw [if_neg (by omega)]
        obtain ⟨q1, q2, q3⟩ := hI.k s' hs' hk' f hf
        have ex : Ag (mKM M (4 * s' + f)) (kw (mKX M) (4 * s' + f)) (kw (cpy (mX M) (mKX M) (40 * r) 40) (4 * s' + f)) := fun i hi => by unfold kw cpy; rw [if_neg (by omega)]
        have ey : Ag (mKM M (4 * s' + f)) (kw (mKY M) (4 * s' + f)) (kw (cpy (mY M) (mKY M) (40 * r) 40) (4 * s' + f)) := fun i hi => by unfold kw cpy; rw [if_neg (by omega)]
        rw [e1]
        exact ⟨q1, q2.ag ex ey, q3.ag ex ey⟩
    · intro s' hs'
      rw [k6]
      by_cases e : s' = r
      · rw [e, updA_s, updA_s]
      · rw [updA_n e, updA_n e]; exact hI.r.2.2.1 s' hs'
    · intro s' hs' hk f hf
      by_cases e : s' = r
      · subst e
        have e1 : cpy (mM M) (mKM M) (4 * s') 4 (4 * s' + f) = mM M f := by unfold cpy; rw [if_pos (by omega)]; congr 1; omega
        have n1 := hI.n10 hf
        obtain ⟨q1, q2, q3⟩ := h2 f (by omega) hf
        rw [show s' * 4 + f = 4 * s' + f by omega, hI.N hf] at q1 q2 q3
        rw [e1]
        refine ⟨q1, fun i hi => ?_, fun i hi => ?_⟩
        · rw [q2 i hi, hI.X hf i hi]; unfold kw cpy fw; rw [if_pos (by omega)]; congr 1; omega
        · rw [q3 i hi, hI.Y hf i hi]; unfold kw cpy fw; rw [if_pos (by omega)]; congr 1; omega
      · have hk' : mkp M s' = true := by
          have : updA (mkp M) r true s' = true := hk
          rwa [updA_n e] at this
        have e1 : cpy (mM M) (mKM M) (4 * r) 4 (4 * s' + f) = mKM M (4 * s' + f) := by unfold cpy; rw [if_neg (by omega)]
        have n1 := (hI.k s' hs' hk' f hf).1
        obtain ⟨q1, q2, q3⟩ := h3 (4 * s' + f) (by omega)
        obtain ⟨p1, p2, p3⟩ := hI.r.2.2.2 s' hs' hk' f hf
        rw [e1, q1, q2, q3]
        refine ⟨p1, fun i hi => ?_, fun i hi => ?_⟩
        · rw [p2 i hi]; unfold kw cpy; rw [if_neg (by omega)]
        · rw [p3 i hi]; unfold kw cpy; rw [if_neg (by omega)]
  · rw [if_neg c, if_neg (by omega), if_neg (by omega), if_neg c]
    exact ⟨rfl, hI⟩
theorem ob_again {Z : CZ} {M : MZ} (hI : Inv Z M) (s : Int) : aAgain Z s = bAgain M s ∧ Inv (zAgain Z s) (yAgain M s) := by
  have ok := zAgain_ok hI.z s
  unfold aAgain bAgain zAgain yAgain at *
  by_cases c : 0 ≤ s ∧ s ≤ 1
  · have c2 : 0 ≤ s ∧ s < 2 := by omega
    obtain ⟨r, rfl⟩ : ∃ r : Nat, s = (r : Int) := ⟨s.toNat, by omega⟩
    rw [i_nn] at *
    have ek := hI.r.2.2.1 r (by omega)
    rw [ek] at ok ⊢
    rw [if_pos c, if_pos c2]
    by_cases d : mkp M r = true
    · rw [if_pos ⟨c2, d⟩] at ok
      rw [if_pos d, if_pos d, if_pos ⟨c2, d⟩, if_pos ⟨c, d⟩]
      obtain ⟨⟨k1, k2, k3, k4, k5, k6⟩, h2, -⟩ := agZ_k (s := r) 4 0 Z (by omega)
      generalize agZ r 4 0 Z = W at *
      have kk : ∀ f, f < 4 → zN W f = mKM M (4 * r + f) ∧ Ag (mKM M (4 * r + f)) (zX W f) (kw (mKX M) (4 * r + f)) ∧ Ag (mKM M (4 * r + f)) (zY W f) (kw (mKY M) (4 * r + f)) := fun f hf => by
        obtain ⟨q1, q2, q3⟩ := h2 f (by omega) hf
        obtain ⟨p1, p2, p3⟩ := hI.r.2.2.2 r (by omega) d f hf
        rw [show r * 4 + f = 4 * r + f by omega, p1] at q1 q2 q3
        exact ⟨q1, q2.tr p2, q3.tr p3⟩
      have live : ∀ f, f < 4 → fill (fun k => mKM M (4 * r + k)) (mM M) 4 f = mKM M (4 * r + f) ∧ Ag (mKM M (4 * r + f)) (kw (mKX M) (4 * r + f)) (fw (fill (fun k => mKX M (40 * r + k)) (mX M) 40) f) ∧ Ag (mKM M (4 * r + f)) (kw (mKY M) (4 * r + f)) (fw (fill (fun k => mKY M (40 * r + k)) (mY M) 40) f) := fun f hf => by
        have n1 := (hI.k r (by omega) d f hf).1
        refine ⟨fill_lt hf, fun i hi => ?_, fun i hi => ?_⟩
        · show _ = fill (fun k => mKX M (40 * r + k)) (mX M) 40 (10 * f + i)
          rw [fill_lt (by omega)]; unfold kw; congr 1; omega
        · show _ = fill (fun k => mKY M (40 * r + k)) (mY M) 40 (10 * f + i)
          rw [fill_lt (by omega)]; unfold kw; congr 1; omega
      have good : ∀ f, f < 4 → mKM M (4 * r + f) ≤ 10 ∧ Rg (mKM M (4 * r + f)) (fw (fill (fun k => mKX M (40 * r + k)) (mX M) 40) f) (fw (fill (fun k => mKY M (40 * r + k)) (mY M) 40) f) ∧ Dst (mKM M (4 * r + f)) (fw (fill (fun k => mKX M (40 * r + k)) (mX M) 40) f) (fw (fill (fun k => mKY M (40 * r + k)) (mY M) 40) f) := fun f hf => by
        obtain ⟨q1, q2, q3⟩ := hI.k r (by omega) d f hf
        obtain ⟨-, l2, l3⟩ := live f hf
        exact ⟨q1, q2.ag l2 l3, q3.ag l2 l3⟩
      refine ⟨?_, ok, ⟨hI.m.1, hI.m.2.1, fun f hf => ?_⟩, fun f hf i j hi hj hij => ?_, hI.k, ?_, fun f hf => ?_, fun s' hs' => ?_, fun s' hs' hk f hf => ?_⟩
      · unfold allN
        rw [(kk 0 (by omega)).1, (kk 1 (by omega)).1, (kk 2 (by omega)).1, (kk 3 (by omega)).1]; rfl
      · show fill (fun k => mKM M (4 * r + k)) (mM M) 4 f ≤ 10 ∧ ∀ i, i < fill (fun k => mKM M (4 * r + k)) (mM M) 4 f → _
        rw [(live f hf).1]
        refine ⟨(good f hf).1, fun i hi => ?_⟩
        obtain ⟨q1, q2, q3, q4⟩ := (good f hf).2.1 i hi
        exact ⟨⟨q1, q2⟩, q3, q4⟩
      · have hi' : i < fill (fun k => mKM M (4 * r + k)) (mM M) 4 f := hi
        have hj' : j < fill (fun k => mKM M (4 * r + k)) (mM M) 4 f := hj
        rw [(live f hf).1] at hi' hj'
        exact (good f hf).2.2 i j hi' hj' hij
      · exact ⟨k1.trans hI.r.1.1, fun i hi => by
          show zB W i = mB M i
          rw [k2]; exact hI.r.1.2 i hi⟩
      · show zN W f = fill (fun k => mKM M (4 * r + k)) (mM M) 4 f ∧ Ag (fill (fun k => mKM M (4 * r + k)) (mM M) 4 f) (zX W f) (fw (fill (fun k => mKX M (40 * r + k)) (mX M) 40) f) ∧ Ag (fill (fun k => mKM M (4 * r + k)) (mM M) 4 f) (zY W f) (fw (fill (fun k => mKY M (40 * r + k)) (mY M) 40) f)
        obtain ⟨l1, l2, l3⟩ := live f hf
        obtain ⟨q1, q2, q3⟩ := kk f hf
        rw [l1]
        exact ⟨q1, q2.tr l2, q3.tr l3⟩
      · show zkp W s' = mkp M s'
        rw [k6]; exact hI.r.2.2.1 s' hs'
      · show zKN W (4 * s' + f) = _ ∧ Ag _ (zKX W (4 * s' + f)) _ ∧ Ag _ (zKY W (4 * s' + f)) _
        rw [k3, k4, k5]; exact hI.r.2.2.2 s' hs' hk f hf
    · rw [if_neg d, if_neg d, if_neg (fun q => d q.2), if_neg (fun q => d q.2)]
      exact ⟨rfl, hI⟩
  · rw [if_neg c, if_neg (by omega), if_neg (fun q => c (by omega)), if_neg (fun q => c q.1)]
    exact ⟨rfl, hI⟩
