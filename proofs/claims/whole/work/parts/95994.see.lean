/-! Sight of the reference: where a fence is crossed, one side lies beyond. -/
theorem mt_pos {X Y : Nat → Int} {n c o : Nat} (hD : Dst n X Y) (h2 : 2 ≤ n) (hc : c < n) (ho : o < n) (hco : c ≠ o) : pos2 (mtR X Y n c o) := fun r hr => (mt_on hD h2 hc ho hco hr).1
theorem md_mix {A B : Int × Int} (hA : 0 < A.2) (hB : 0 < B.2) (h : lt2 A B) {i j : Int} (hi : 0 < i) (hj : 0 < j) : lt2 A (i * A.1 + j * B.1, i * A.2 + j * B.2) ∧ lt2 (i * A.1 + j * B.1, i * A.2 + j * B.2) B := by
  unfold lt2 at *
  simp only
  have a := Int.mul_lt_mul_of_pos_left h hi
  have b := Int.mul_lt_mul_of_pos_left h hj
  constructor
  · have e1 : A.1 * (i * A.2 + j * B.2) = i * (A.1 * A.2) + j * (A.1 * B.2) := by grind
    have e2 : (i * A.1 + j * B.1) * A.2 = i * (A.1 * A.2) + j * (B.1 * A.2) := by grind
    omega
  · have e1 : (i * A.1 + j * B.1) * B.2 = i * (A.1 * B.2) + j * (B.1 * B.2) := by grind
    have e2 : B.1 * (i * A.2 + j * B.2) = i * (B.1 * A.2) + j * (B.1 * B.2) := by grind
    omega
theorem Cro.sg {X Y : Nat → Int} {n c o k : Nat} {T : Int × Int} (h : SndF n X Y) (hc : c < n) (ho : o < n) (hco : c ≠ o) (hT : Cro X Y n c o k T) (hs : sgM X Y n c o = true) : False := by
  have hD := h.2.2.1
  have n3 := h.1
  have hL := hD c o hc ho hco
  obtain ⟨T2, T1, T12, hk, sk, m, x0, y0, hm, hx0, hy0, q0⟩ := id hT
  have hk2 := nx_lt hk
  have lk := hD k (nx n k) hk hk2 (Ne.symm (nx_ne (by omega) hk))
  have pp := mt_pos hD (show 2 ≤ n by omega) hc ho hco
  have ss := mt_srt X Y n c o
  have mon := fun r hr => mt_on hD (show 2 ≤ n by omega) hc ho hco (r := r) hr
  have hs2 : okR X Y n c o (mtR X Y n c o) = true := hs
  -- not along
  have nc : ¬ (sd X Y k (nx n k) c = 0 ∧ sd X Y k (nx n k) o = 0) := fun z => sk (col_in lk z.1 z.2).1
  -- the crossing is a meet
  have a1 := Int.mul_nonneg (show 0 ≤ m by omega) (show 0 ≤ T.2 - T.1 by omega)
  have a2 := Int.mul_nonneg (show 0 ≤ m by omega) (show 0 ≤ T.1 by omega)
  have a3 : m * (T.2 - T.1) + m * T.1 = m * T.2 := by rw [← Int.mul_add]; congr 1; omega
  have a4 := Int.mul_pos hm T2
  obtain ⟨r0, r0m, r0e⟩ : ∃ r, r ∈ mtR X Y n c o ∧ r.1 * T.2 = T.1 * r.2 := by
    rcases pv_of hk a1 a2 (by omega) (Int.le_of_lt hx0) (Int.le_of_lt hy0) q0 with z | ⟨r, r1, r2⟩
    · exact absurd z nc
    · refine ⟨r, r1, ?_⟩
      rw [a3] at r2
      refine Int.eq_of_mul_eq_mul_left (show m ≠ 0 by omega) ?_
      grind
  have r0p := pp r0 r0m
  have r0a : le2 r0 T := by unfold le2; omega
  have r0b : le2 T r0 := by unfold le2; omega
  have z0 : ((0 : Int), (1 : Int)) ∈ mtR X Y n c o := mem_mt.mpr (Or.inr (Or.inr rfl))
  have z1 : ((1 : Int), (1 : Int)) ∈ mtR X Y n c o := mem_mt.mpr (Or.inr (Or.inl rfl))
  obtain ⟨p1, q1, p1m, q1m, p1d, q1d, ok1, g1⟩ := gap (X := X) (Y := Y) (n := n) (c := c) (o := o) (fun r => lt2 r T) (fun p q hp hq l d => le_lt2 hp hq T2 l d) _ ss pp hs2 ⟨_, z0, by unfold lt2; simp only; omega⟩ ⟨r0, r0m, nlt2.mpr r0b⟩
  obtain ⟨p2, q2, p2m, q2m, p2d, q2d, ok2, g2⟩ := gap (X := X) (Y := Y) (n := n) (c := c) (o := o) (fun r => le2 r T) (fun p q hp hq l d => le2_tr hp hq T2 l d) _ ss pp hs2 ⟨r0, r0m, r0a⟩ ⟨_, z1, by rw [nle2]; unfold lt2; simp only; omega⟩
  rw [nlt2] at q1d
  rw [nle2] at q2d
  obtain ⟨p1p, p1x, p1y, _⟩ := mon p1 p1m
  obtain ⟨q1p, q1x, q1y, _⟩ := mon q1 q1m
  obtain ⟨p2p, p2x, p2y, _⟩ := mon p2 p2m
  obtain ⟨q2p, q2x, q2y, _⟩ := mon q2 q2m
  have q1T : le2 q1 T := le2_tr q1p r0p T2 ((g1 r0 r0m).2 (nlt2.mpr r0b)) r0a
  have p2T : le2 T p2 := le2_tr T2 r0p p2p r0b ((g2 r0 r0m).1 r0a)
  -- the two middles
  obtain ⟨A1, A2⟩ := md_lt p1p q1p (lt_le2 p1p T2 q1p p1d q1d)
  obtain ⟨B1, B2⟩ := md_lt p2p q2p (le_lt2 p2p T2 q2p p2d q2d)
  obtain ⟨Ax, Ay⟩ := md_in p1p q1p p1x p1y q1x q1y
  obtain ⟨Bx, By⟩ := md_in p2p q2p p2x p2y q2x q2y
  have Ap := md_pos p1p q1p
  have Bp := md_pos p2p q2p
  have AT : lt2 (md2 p1 q1) T := lt_le2 Ap q1p T2 A2 q1T
  have TB : lt2 T (md2 p2 q2) := le_lt2 T2 p2p Bp p2T B1
  have offA : ∀ e, e < n → Nn (poP X Y c o (md2 p1 q1)) (hat X Y e) (hat X Y (nx n e)) := fun e he => by
    refine hT.off h hc ho hco Ap Ax Ay (fun r hr => ?_) (Or.inl ⟨AT, fun r hr => ?_⟩) he
    · rintro ⟨u1, u2⟩
      have rp := pp r hr
      have := (g1 r hr).1 (le_lt2 rp Ap T2 u1 AT)
      exact nlt2.mpr this (lt_le2 p1p Ap rp A1 u2)
    · have rp := pp r hr
      by_cases d : lt2 r T
      · exact Or.inl (le_lt2 rp p1p Ap ((g1 r hr).1 d) A1)
      · exact Or.inr (nlt2.mp d)
  have offB : ∀ e, e < n → Nn (poP X Y c o (md2 p2 q2)) (hat X Y e) (hat X Y (nx n e)) := fun e he => by
    refine hT.off h hc ho hco Bp Bx By (fun r hr => ?_) (Or.inr ⟨TB, fun r hr => ?_⟩) he
    · rintro ⟨u1, u2⟩
      have rp := pp r hr
      have := (g2 r hr).2 (nle2.mpr (lt_le2 T2 Bp rp TB u2))
      exact nlt2.mpr this (le_lt2 rp Bp q2p u1 B2)
    · have rp := pp r hr
      by_cases d : le2 r T
      · exact Or.inr d
      · exact Or.inl (lt_le2 Bp q2p rp B2 ((g2 r hr).2 d))
  have prA := okP_pr hD (by omega) p1p q1p ok1 offA
  have prB := okP_pr hD (by omega) p2p q2p ok2 offB
  have AB : lt2 (md2 p1 q1) (md2 p2 q2) := lt_le2 Ap T2 Bp AT (lt_2 TB)
  have gA : ∀ r, r ∈ mtR X Y n c o → lt2 r T → lt2 r (md2 p1 q1) := fun r hr d => le_lt2 (pp r hr) p1p Ap ((g1 r hr).1 d) A1
  have gB : ∀ r, r ∈ mtR X Y n c o → lt2 T r → lt2 (md2 p2 q2) r := fun r hr d => lt_le2 Bp q2p (pp r hr) B2 ((g2 r hr).2 (nle2.mpr d))
  clear g1 g2 ok1 ok2 A1 A2 B1 B2 q1T p2T
  generalize md2 p1 q1 = A at *
  generalize md2 p2 q2 = B at *
  have hA3 : 0 < (poP X Y c o A).2.2 := by rw [poP_3]; exact Ap
  have hB3 : 0 < (poP X Y c o B).2.2 := by rw [poP_3]; exact Bp
  obtain ⟨s, hss, e⟩ := pr_AB (G := hat X Y) (n := n) (fun _ _ => rfl) hA3 hB3 (fun e he => nt_of hA3 hB3 rfl rfl (offA e he) (offB e he))
  rw [prA, prB] at e
  have del : ∀ p, dv (poP X Y c o A) (poP X Y c o B) p = (A.2 * B.1 - A.1 * B.2) * dv (hat X Y c) (hat X Y o) p := fun p => by
    unfold poP
    rw [dv_cb1, dv_cb2, dv_cb2, dv_0, dv_0, dv_sw (hat X Y c) (hat X Y o) p]
    grind
  have dpos : 0 < A.2 * B.1 - A.1 * B.2 := by unfold lt2 at AB; rw [Int.mul_comm A.2]; omega
  -- the crossed fence
  have tk : x0 * sd X Y c o k + y0 * sd X Y c o (nx n k) = 0 := by
    have := congrArg (dv (hat X Y c) (hat X Y o)) q0
    rw [dv_cb, dv_cb, dv_1, dv_2, hat_dv, hat_dv] at this
    omega
  have tkn : sd X Y c o k * sd X Y c o (nx n k) < 0 := by
    rcases Int.lt_or_gt_of_ne sk with w | w
    · have := Int.mul_neg_of_pos_of_neg hx0 w
      exact Int.mul_neg_of_neg_of_pos w ((pos_mul hy0).mp (by omega))
    · have := Int.mul_pos hx0 w
      exact Int.mul_neg_of_pos_of_neg w ((neg_mul' hy0).mp (by omega))
  have snx : sd X Y c o (nx n k) ≠ 0 := fun z => by rw [z, Int.mul_zero] at tkn; omega
  have sT : (T.2 - T.1) * sd X Y k (nx n k) c + T.1 * sd X Y k (nx n k) o = 0 := by
    have := congrArg (dv (hat X Y k) (hat X Y (nx n k))) q0
    rw [dv_cb, dv_cb, dv_1, dv_2, hat_dv, hat_dv] at this
    refine (zer_mul hm).mp ?_
    grind
  have sc0 : sd X Y k (nx n k) c ≠ 0 := fun z => by
    rw [z, Int.mul_zero, Int.zero_add] at sT
    refine nc ⟨z, ?_⟩
    rcases Int.mul_eq_zero.mp sT with w | w
    · omega
    · exact w
  have sP : ∀ Q : Int × Int, dv (hat X Y k) (hat X Y (nx n k)) (poP X Y c o Q) * T.1 = sd X Y k (nx n k) c * (Q.2 * T.1 - Q.1 * T.2) := fun Q => by
    unfold poP
    rw [dv_cb, hat_dv, hat_dv]
    grind
  have hVk : hV s (poP X Y c o A) (poP X Y c o B) (hat X Y k) (hat X Y (nx n k)) = true := by
    have t1 : dv (poP X Y c o A) (poP X Y c o B) (hat X Y k) ≠ 0 := by rw [del, hat_dv]; exact Int.mul_ne_zero (by omega) sk
    have t2 : dv (poP X Y c o A) (poP X Y c o B) (hat X Y (nx n k)) ≠ 0 := by rw [del, hat_dv]; exact Int.mul_ne_zero (by omega) snx
    rw [hV_x hss t1 t2]
    unfold xV
    have u1 : dv (poP X Y c o A) (poP X Y c o B) (hat X Y k) * dv (poP X Y c o A) (poP X Y c o B) (hat X Y (nx n k)) < 0 := by
      rw [del, del, hat_dv, hat_dv, Int.mul_comm (A.2 * B.1 - A.1 * B.2), Int.mul_comm (A.2 * B.1 - A.1 * B.2) (sd X Y c o (nx n k))]
      exact (mul_neg_p dpos dpos).mpr tkn
    have u2 : dv (hat X Y k) (hat X Y (nx n k)) (poP X Y c o A) * dv (hat X Y k) (hat X Y (nx n k)) (poP X Y c o B) < 0 := by
      rw [← mul_neg_p (k := T.1) (l := T.1) T1 T1, sP, sP]
      have v1 : 0 < A.2 * T.1 - A.1 * T.2 := by unfold lt2 at AT; rw [Int.mul_comm A.2]; omega
      have v2 : B.2 * T.1 - B.1 * T.2 < 0 := by unfold lt2 at TB; rw [Int.mul_comm B.2]; omega
      have v3 := Int.mul_neg_of_pos_of_neg v1 v2
      have v4 : 0 < sd X Y k (nx n k) c * sd X Y k (nx n k) c := by
        rcases Int.lt_or_gt_of_ne sc0 with w | w
        · exact Int.mul_pos_of_neg_of_neg w w
        · exact Int.mul_pos w w
      have v5 := Int.mul_neg_of_pos_of_neg v4 v3
      have v6 : sd X Y k (nx n k) c * (A.2 * T.1 - A.1 * T.2) * (sd X Y k (nx n k) c * (B.2 * T.1 - B.1 * T.2)) = sd X Y k (nx n k) c * sd X Y k (nx n k) c * ((A.2 * T.1 - A.1 * T.2) * (B.2 * T.1 - B.1 * T.2)) := by grind
      rw [v6]; exact v5
    rw [decide_eq_true u1, decide_eq_true u2]; rfl
  have rest : ∀ e, e < n → e ≠ k → hV s (poP X Y c o A) (poP X Y c o B) (hat X Y e) (hat X Y (nx n e)) = false := fun e he ek => by
    refine Bool.eq_false_iff.mpr fun q => ?_
    have le := hD e (nx n e) he (nx_lt he) (Ne.symm (nx_ne (by omega) he))
    obtain ⟨i, j, x, y, hi, hj, hx, hy, z⟩ := hV_pt hA3 hB3 rfl rfl hss q
    have z2 : cb ((i * A.2 + j * B.2) - (i * A.1 + j * B.1)) (hat X Y c) (i * A.1 + j * B.1) (hat X Y o) = cb x (hat X Y e) y (hat X Y (nx n e)) := by
      rw [← z]
      unfold poP cb
      refine v3_ext ?_ ?_ ?_ <;> simp only <;> grind
    have w1 := Int.mul_nonneg (Int.le_of_lt hi) Ax
    have w2 := Int.mul_nonneg (Int.le_of_lt hj) Bx
    have w3 := Int.mul_le_mul_of_nonneg_left Ay (Int.le_of_lt hi)
    have w4 := Int.mul_le_mul_of_nonneg_left By (Int.le_of_lt hj)
    have w5 := Int.mul_pos hi Ap
    have w6 := Int.mul_pos hj Bp
    obtain ⟨m1, m2⟩ := md_mix Ap Bp AB hi hj
    rcases pv_of he (show 0 ≤ (i * A.2 + j * B.2) - (i * A.1 + j * B.1) by omega) (show 0 ≤ i * A.1 + j * B.1 by omega) (by omega) hx hy z2 with ⟨s1, s2⟩ | ⟨r, rm, re⟩
    · obtain ⟨t1, t2⟩ := col_in (c := c) (d := o) le s1 s2
      unfold hV hN at q
      rw [del, del, hat_dv, hat_dv, t1, t2] at q
      simp at q
    · have rp := pp r rm
      have re2 : r.1 * (i * A.2 + j * B.2) = (i * A.1 + j * B.1) * r.2 := by
        rw [← re]; congr 1; omega
      have ra : le2 r (i * A.1 + j * B.1, i * A.2 + j * B.2) := by unfold le2; simp only; omega
      have rb : le2 (i * A.1 + j * B.1, i * A.2 + j * B.2) r := by unfold le2; simp only; omega
      have zp : 0 < ((i * A.1 + j * B.1, i * A.2 + j * B.2) : Int × Int).2 := by simp only; omega
      by_cases d1 : lt2 r T
      · have v1 := gA r rm d1
        have v2 := lt_le2 Ap zp rp m1 rb
        unfold lt2 at v1 v2
        omega
      · by_cases d2 : lt2 T r
        · have v1 := gB r rm d2
          have v2 := le_lt2 rp zp Bp ra m2
          unfold lt2 at v1 v2
          omega
        · rw [nlt2] at d1 d2
          have rT : r.1 * T.2 = T.1 * r.2 := by unfold le2 at d1 d2; omega
          -- the point is the crossing
          have zT : (i * A.1 + j * B.1) * T.2 = T.1 * (i * A.2 + j * B.2) := by
            refine Int.eq_of_mul_eq_mul_left (show r.2 ≠ 0 by omega) ?_
            grind
          refine hT.no h hL he ek (m := i * A.2 + j * B.2) (x := T.2 * x) (y := T.2 * y) (by omega) (Int.mul_nonneg (by omega) hx) (Int.mul_nonneg (by omega) hy) ?_
          have f1 : cb (T.2 * x) (hat X Y e) (T.2 * y) (hat X Y (nx n e)) = cb T.2 (cb x (hat X Y e) y (hat X Y (nx n e))) 0 (hat X Y e) := by
            unfold cb; refine v3_ext ?_ ?_ ?_ <;> simp only <;> grind
          rw [f1, ← z2]
          unfold cb
          refine v3_ext ?_ ?_ ?_ <;> simp only <;> grind
  rw [xr_1 hk (fun e he ek => rest e he ek), hVk] at e
  cases e
