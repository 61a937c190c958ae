/-! Sight of the reference, told by the corners on the way. -/
def OnS (X Y : Nat → Int) (c o x : Nat) : Prop := sd X Y c o x = 0 ∧ 0 ≤ prt X Y c o x ∧ prt X Y c o x ≤ lng X Y c o
def SpecP (X Y : Nat → Int) (n c o : Nat) : Prop := ∀ a b, a < n → b < n → OnS X Y c o a → OnS X Y c o b → prt X Y c o a < prt X Y c o b → (∀ j, j < n → OnS X Y c o j → ¬ (prt X Y c o a < prt X Y c o j ∧ prt X Y c o j < prt X Y c o b)) → crsd X Y n a b = false ∧ pmid X Y n a b ≠ 2
theorem prt_0 (X Y : Nat → Int) (c o : Nat) : prt X Y c o c = 0 := by unfold prt; grind
theorem prt_L (X Y : Nat → Int) (c o : Nat) : prt X Y c o o = lng X Y c o := by unfold prt lng; grind
theorem OnS.c {X Y : Nat → Int} {c o : Nat} (h : 0 < lng X Y c o) : OnS X Y c o c := ⟨by unfold sd; grind, by rw [prt_0]; omega, by rw [prt_0]; omega⟩
theorem OnS.o {X Y : Nat → Int} {c o : Nat} (h : 0 < lng X Y c o) : OnS X Y c o o := ⟨by unfold sd; grind, by rw [prt_L]; omega, by rw [prt_L]; omega⟩
theorem sd_scale {X Y : Nat → Int} {c o a b : Nat} (ha : sd X Y c o a = 0) (hb : sd X Y c o b = 0) (x : Nat) : sd X Y a b x * lng X Y c o = (prt X Y c o b - prt X Y c o a) * sd X Y c o x := by
  have : sd X Y a b x * lng X Y c o = (prt X Y c o b - prt X Y c o a) * (sd X Y c o x - sd X Y c o a) - (sd X Y c o b - sd X Y c o a) * (prt X Y c o x - prt X Y c o a) := by unfold sd lng prt; grind
  rw [ha, hb] at this
  grind
/-- a meet is a corner or an inner point of a fence -/
theorem mt_kind {X Y : Nat → Int} {n c o : Nat} (h : SndF n X Y) (hc : c < n) (ho : o < n) (hco : c ≠ o) {r : Int × Int} (hr : r ∈ mtR X Y n c o) : (∃ j, j < n ∧ OnS X Y c o j ∧ r.1 * lng X Y c o = prt X Y c o j * r.2) ∨ ∃ k, Cro X Y n c o k r := by
  have hD := h.2.2.1
  have n3 := h.1
  have hL := hD c o hc ho hco
  obtain ⟨rp, r1, r2, _⟩ := mt_on hD (by omega) hc ho hco hr
  by_cases e0 : r.1 = 0
  · left
    exact ⟨c, hc, OnS.c hL, by rw [prt_0, e0]; omega⟩
  by_cases e1 : r.1 = r.2
  · left
    exact ⟨o, ho, OnS.o hL, by rw [prt_L, e1, Int.mul_comm]⟩
  rcases mem_mt.mp hr with ⟨k, hk, ⟨b1, b2⟩, w⟩ | rfl | rfl
  · have hk2 := nx_lt hk
    have lk := hD k (nx n k) hk hk2 (Ne.symm (nx_ne (by omega) hk))
    rcases w with ⟨w1, w2, w3⟩ | ⟨w1, w2, w3⟩
    · left
      obtain ⟨c1, c2⟩ := col_in (c := c) (d := o) lk w2 (by omega)
      rcases w3 with rfl | rfl
      · exact ⟨k, hk, ⟨c1, b1, b2⟩, rfl⟩
      · exact ⟨nx n k, hk2, ⟨c2, b1, b2⟩, rfl⟩
    · rw [sgn_le] at w2
      have f := four (hat X Y c) (hat X Y o) (hat X Y k) (hat X Y (nx n k))
      rw [hat_dv, hat_dv, hat_dv, hat_dv] at f
      have g3 : sd X Y c o k - sd X Y c o (nx n k) = sd X Y k (nx n k) o - sd X Y k (nx n k) c := by unfold sd; grind
      -- the point by weights of the fence
      obtain ⟨x, y, hx, hy, e, ex, ey⟩ : ∃ x y : Int, 0 ≤ x ∧ 0 ≤ y ∧ cb (1 * (r.2 - r.1)) (hat X Y c) (1 * r.1) (hat X Y o) = cb x (hat X Y k) y (hat X Y (nx n k)) ∧ (x = 0 ↔ sd X Y c o (nx n k) = 0) ∧ (y = 0 ↔ sd X Y c o k = 0) := by
        rw [w3] at b1 b2 ⊢
        by_cases lt : sd X Y k (nx n k) c < sd X Y k (nx n k) o
        · simp only [if_pos lt] at b1 b2 ⊢
          have s : 0 ≤ sd X Y c o k ∧ sd X Y c o (nx n k) ≤ 0 := by
            by_cases z : 0 ≤ sd X Y c o k
            · refine ⟨z, Int.not_lt.mp fun q => ?_⟩
              have := Int.mul_pos (show 0 < sd X Y c o k by omega) q
              omega
            · have := Int.mul_pos_of_neg_of_neg (show sd X Y c o k < 0 by omega) (show sd X Y c o (nx n k) < 0 by omega)
              omega
          refine ⟨-sd X Y c o (nx n k), sd X Y c o k, by omega, by omega, ?_, by omega, by omega⟩
          rw [Int.one_mul, Int.one_mul, show sd X Y k (nx n k) o - sd X Y k (nx n k) c - -sd X Y k (nx n k) c = sd X Y k (nx n k) o by omega, ← f, cb_sw]
        · simp only [if_neg lt] at b1 b2 ⊢
          have s : sd X Y c o k ≤ 0 ∧ 0 ≤ sd X Y c o (nx n k) := by
            by_cases z : sd X Y c o k ≤ 0
            · refine ⟨z, Int.not_lt.mp fun q => ?_⟩
              have := Int.mul_pos_of_neg_of_neg (show sd X Y c o k < 0 by omega) q
              omega
            · have := Int.mul_pos (show 0 < sd X Y c o k by omega) (show 0 < sd X Y c o (nx n k) by omega)
              omega
          refine ⟨sd X Y c o (nx n k), -sd X Y c o k, by omega, by omega, ?_, by omega, by omega⟩
          have g := cb_neg f
          rw [Int.neg_neg, Int.neg_neg] at g
          rw [Int.one_mul, Int.one_mul, show sd X Y k (nx n k) c - sd X Y k (nx n k) o - sd X Y k (nx n k) c = -sd X Y k (nx n k) o by omega, ← g, cb_sw]
      obtain ⟨p1, p2⟩ := prt_cb e
      rw [Int.one_mul] at p1
      have p2' : x + y = r.2 := by omega
      by_cases x0 : x = 0
      · left
        have s := ex.mp x0
        rw [x0, Int.zero_mul, Int.zero_add] at p1
        have yr : y = r.2 := by omega
        rw [yr] at p1
        have q : 0 ≤ prt X Y c o (nx n k) ∧ prt X Y c o (nx n k) ≤ lng X Y c o := by
          constructor
          · refine Int.not_lt.mp fun z => ?_
            have := Int.mul_neg_of_pos_of_neg rp z
            have := Int.mul_nonneg r1 (Int.le_of_lt hL)
            omega
          · refine Int.not_lt.mp fun z => ?_
            have := Int.mul_lt_mul_of_pos_left z rp
            have := Int.mul_le_mul_of_nonneg_right r2 (Int.le_of_lt hL)
            omega
        exact ⟨nx n k, hk2, ⟨s, q⟩, by rw [Int.mul_comm (prt X Y c o (nx n k))]; omega⟩
      · by_cases y0 : y = 0
        · left
          have s := ey.mp y0
          rw [y0, Int.zero_mul, Int.add_zero] at p1
          have xr : x = r.2 := by omega
          rw [xr] at p1
          have q : 0 ≤ prt X Y c o k ∧ prt X Y c o k ≤ lng X Y c o := by
            constructor
            · refine Int.not_lt.mp fun z => ?_
              have := Int.mul_neg_of_pos_of_neg rp z
              have := Int.mul_nonneg r1 (Int.le_of_lt hL)
              omega
            · refine Int.not_lt.mp fun z => ?_
              have := Int.mul_lt_mul_of_pos_left z rp
              have := Int.mul_le_mul_of_nonneg_right r2 (Int.le_of_lt hL)
              omega
          exact ⟨k, hk, ⟨s, q⟩, by rw [Int.mul_comm (prt X Y c o k)]; omega⟩
        · right
          exact ⟨k, rp, by omega, by omega, hk, fun z => y0 (ey.mpr z), 1, x, y, by omega, by omega, by omega, e⟩
  · exact absurd rfl e1
  · exact absurd rfl e0
/-- the middle of two corners on the way, told by parts of the way -/
theorem mid_wh {X Y : Nat → Int} {n c o a b : Nat} (hL : 0 < lng X Y c o) (ha : sd X Y c o a = 0) (hb : sd X Y c o b = 0) {p q : Int × Int} (hp : 0 < p.2) (hq : 0 < q.2) (ep : p.1 * lng X Y c o = prt X Y c o a * p.2) (eq : q.1 * lng X Y c o = prt X Y c o b * q.2) : okP X Y n c o p q = decide (whM X Y n (X a + X b) (Y a + Y b) 2 < 2) := by
  obtain ⟨a1, a2, _⟩ := cb_xy (cb_lift (m := c) ha)
  obtain ⟨b1, b2, _⟩ := cb_xy (cb_lift (m := c) hb)
  have k0 := Int.mul_pos hp hq
  have e1 : X c * (2 * p.2 * q.2) + (X o - X c) * (p.1 * q.2 + q.1 * p.2) = (p.2 * q.2) * (X a + X b) := by
    refine Int.eq_of_mul_eq_mul_left (show lng X Y c o ≠ 0 by omega) ?_
    grind
  have e2 : Y c * (2 * p.2 * q.2) + (Y o - Y c) * (p.1 * q.2 + q.1 * p.2) = (p.2 * q.2) * (Y a + Y b) := by
    refine Int.eq_of_mul_eq_mul_left (show lng X Y c o ≠ 0 by omega) ?_
    grind
  have e3 : 2 * p.2 * q.2 = (p.2 * q.2) * 2 := by grind
  unfold okP
  rw [e1, e2, e3, whM_k k0]
theorem okR_of {X Y : Nat → Int} {n c o : Nat} : ∀ S : List (Int × Int), srt S → pos2 S → (∀ p q, p ∈ S → q ∈ S → le2 p q → (∀ r, r ∈ S → ¬ (lt2 p r ∧ lt2 r q)) → okP X Y n c o p q = true) → okR X Y n c o S = true
  | [], _, _, _ => rfl
  | [_], _, _, _ => rfl
  | q :: p :: t, hs, hp, H => by
    have hp2 : pos2 (p :: t) := fun x hx => hp x (List.mem_cons_of_mem _ hx)
    have hd := srt_head (p :: t) q hs hp
    have hd2 := srt_head t p hs.2 hp2
    have irr : ∀ x : Int × Int, ¬ lt2 x x := fun x => by unfold lt2; omega
    rw [okR, H p q (List.mem_cons_of_mem _ (List.mem_cons_self ..)) (List.mem_cons_self ..) hs.1 (fun r hr => ?_), okR_of (p :: t) hs.2 hp2 (fun p' q' h1 h2 h3 h4 => ?_)]
    · rfl
    · refine H p' q' (List.mem_cons_of_mem _ h1) (List.mem_cons_of_mem _ h2) h3 (fun r hr => ?_)
      rcases List.mem_cons.mp hr with rfl | hr2
      · rintro ⟨_, z⟩
        exact nlt2.mpr (hd q' h2) z
      · exact h4 r hr2
    · rintro ⟨z1, z2⟩
      rcases List.mem_cons.mp hr with rfl | hr2
      · exact irr _ z2
      · rcases List.mem_cons.mp hr2 with rfl | hr3
        · exact irr _ z1
        · exact nlt2.mpr (hd2 r hr3) z1
theorem mix1 {L pa pb i j x y xc xo xa xb xk xn : Int} (a1 : (L - pa) * xc + pa * xo = L * xa + 0 * xc) (b1 : (L - pb) * xc + pb * xo = L * xb + 0 * xc) (e1 : i * xa + j * xb = x * xk + y * xn) : 1 * ((i + j) * L - (i * pa + j * pb)) * xc + 1 * (i * pa + j * pb) * xo = L * x * xk + L * y * xn := by
  have e : L * (i * xa + j * xb) = L * (x * xk + y * xn) := by rw [e1]
  grind
theorem mix2 {L pa pb i j x y : Int} (e : i + j = x + y) : 1 * ((i + j) * L - (i * pa + j * pb)) + 1 * (i * pa + j * pb) = L * x + L * y := by
  rw [e]; grind
theorem sg_spec {X Y : Nat → Int} {n c o : Nat} (h : SndF n X Y) (hc : c < n) (ho : o < n) (hco : c ≠ o) (hs : sgM X Y n c o = true) : SpecP X Y n c o := by
  intro a b ha hb oa ob hab hno
  have hD := h.2.2.1
  have n3 := h.1
  have hL := hD c o hc ho hco
  refine ⟨?_, ?_⟩
  · unfold crsd
    rw [← Bool.not_eq_true, anyF_iff]
    rintro ⟨k, _, hk, w⟩
    obtain ⟨i, j, x, y, hi, hj, hx, hy, e⟩ := crs_cb w
    unfold crs at w
    rw [Bool.and_eq_true, decide_eq_true_eq, decide_eq_true_eq] at w
    have sk : sd X Y a b k ≠ 0 := fun z => by rw [z, Int.zero_mul] at w; omega
    have sn : sd X Y a b (nx n k) ≠ 0 := fun z => by rw [z, Int.mul_zero] at w; omega
    have tt : x * sd X Y a b k + y * sd X Y a b (nx n k) = 0 := by
      have := congrArg (dv (hat X Y a) (hat X Y b)) e
      rw [dv_cb, dv_cb, dv_1, dv_2, hat_dv, hat_dv] at this
      omega
    have xy := (cb_xy e).2.2
    have x0 : x ≠ 0 := fun z => by
      rw [z, Int.zero_mul, Int.zero_add] at tt
      rcases Int.mul_eq_zero.mp tt with q | q
      · omega
      · exact sn q
    have y0 : y ≠ 0 := fun z => by
      rw [z, Int.zero_mul, Int.add_zero] at tt
      rcases Int.mul_eq_zero.mp tt with q | q
      · omega
      · exact sk q
    have m1 := Int.mul_nonneg (Int.le_of_lt hi) oa.2.1
    have m2 := Int.mul_pos hj (show 0 < prt X Y c o b by have := oa.2.1; omega)
    have m3 := Int.mul_lt_mul_of_pos_left (show prt X Y c o a < lng X Y c o by have := ob.2.2; omega) hi
    have m4 := Int.mul_le_mul_of_nonneg_left ob.2.2 (Int.le_of_lt hj)
    have cr : Cro X Y n c o k (i * prt X Y c o a + j * prt X Y c o b, (i + j) * lng X Y c o) := by
      refine ⟨Int.mul_pos (by omega) hL, by simp only; omega, by simp only; rw [Int.add_mul]; omega, by omega, fun z => ?_, 1, lng X Y c o * x, lng X Y c o * y, by omega, Int.mul_pos hL (by omega), Int.mul_pos hL (by omega), ?_⟩
      · have := sd_scale oa.1 ob.1 k
        rw [z, Int.mul_zero] at this
        rcases Int.mul_eq_zero.mp this with q | q
        · exact sk q
        · omega
      · obtain ⟨a1, a2, _⟩ := cb_xy (cb_lift (m := c) oa.1)
        obtain ⟨b1, b2, _⟩ := cb_xy (cb_lift (m := c) ob.1)
        obtain ⟨e1, e2, e3⟩ := cb_xy e
        refine cb_of ?_ ?_ ?_ <;> simp only
        · exact mix1 a1 b1 e1
        · exact mix1 a2 b2 e2
        · exact mix2 e3
    exact cr.sg h hc ho hco hs
  · have pp := mt_pos hD (show 2 ≤ n by omega) hc ho hco
    obtain ⟨ra, ram, rae⟩ := pv_cor hD (by omega) hc ho hco ha oa.1 oa.2.1 oa.2.2
    obtain ⟨rb, rbm, rbe⟩ := pv_cor hD (by omega) hc ho hco hb ob.1 ob.2.1 ob.2.2
    have rap := pp ra ram
    have rbp := pp rb rbm
    have z0 : ((0 : Int), (1 : Int)) ∈ mtR X Y n c o := mem_mt.mpr (Or.inr (Or.inr rfl))
    have hL2 : 0 < ((prt X Y c o a, lng X Y c o) : Int × Int).2 := hL
    have rb1 : ¬ le2 rb (prt X Y c o a, lng X Y c o) := by
      rw [nle2]
      unfold lt2
      simp only
      have := Int.mul_lt_mul_of_pos_right hab rbp
      omega
    obtain ⟨p, q, pm, qm, pd, qd, ok, g⟩ := gap (X := X) (Y := Y) (n := n) (c := c) (o := o) (fun r => le2 r (prt X Y c o a, lng X Y c o)) (fun p q hp hq l d => le2_tr hp hq hL2 l d) _ (mt_srt X Y n c o) pp hs ⟨_, z0, by unfold le2; simp only; have := oa.2.1; omega⟩ ⟨rb, rbm, rb1⟩
    have pp' := pp p pm
    have qp := pp q qm
    rw [nle2] at qd
    have pe : p.1 * lng X Y c o = prt X Y c o a * p.2 := by
      have u1 := (g ra ram).1 (by unfold le2; simp only; omega)
      have u2 := le2_tr (p := (prt X Y c o a, lng X Y c o)) (q := ra) (r := p) hL rap pp' (by unfold le2; simp only; omega) u1
      unfold le2 at pd u2
      simp only at pd u2
      omega
    rcases mt_kind h hc ho hco qm with ⟨j, jn, oj, je⟩ | ⟨k, ck⟩
    · have lj : prt X Y c o a < prt X Y c o j := by
        unfold lt2 at qd
        simp only at qd
        have : prt X Y c o a * q.2 < prt X Y c o j * q.2 := by omega
        exact (pos_lt qp).mp this
      have lb : prt X Y c o j ≤ prt X Y c o b := by
        have u1 := (g rb rbm).2 rb1
        have u2 := le2_tr (p := q) (q := rb) (r := (prt X Y c o b, lng X Y c o)) qp rbp hL u1 (by unfold le2; simp only; omega)
        unfold le2 at u2
        simp only at u2
        have : prt X Y c o j * q.2 ≤ prt X Y c o b * q.2 := by omega
        exact (pos_le qp).mp this
      have eb : prt X Y c o j = prt X Y c o b := by
        have := hno j jn oj
        omega
      rw [eb] at je
      have w := mid_wh (n := n) hL oa.1 ob.1 pp' qp pe je
      rw [ok] at w
      rw [pmid_eq]
      have := of_decide_eq_true w.symm
      omega
    · exact absurd (ck.sg h hc ho hco hs) id
theorem spec_sg {X Y : Nat → Int} {n c o : Nat} (h : SndF n X Y) (hc : c < n) (ho : o < n) (hco : c ≠ o) (hs : SpecP X Y n c o) : sgM X Y n c o = true := by
  have hD := h.2.2.1
  have n3 := h.1
  have hL := hD c o hc ho hco
  have pp := mt_pos hD (show 2 ≤ n by omega) hc ho hco
  -- nothing is crossed
  have nocr : ∀ k T, ¬ Cro X Y n c o k T := fun k T hT => by
    obtain ⟨T2, T1, T12, hk, sk, m, x0, y0, hm, hx0, hy0, q0⟩ := id hT
    obtain ⟨a, an, ⟨oa, la⟩, ma⟩ := amax (fun x => OnS X Y c o x ∧ prt X Y c o x * T.2 ≤ T.1 * lng X Y c o) (fun x => prt X Y c o x) n ⟨c, hc, OnS.c hL, by rw [prt_0]; have := Int.mul_pos T1 hL; omega⟩
    obtain ⟨b, bn, ⟨ob, lb⟩, mb⟩ := amax (fun x => OnS X Y c o x ∧ T.1 * lng X Y c o ≤ prt X Y c o x * T.2) (fun x => - prt X Y c o x) n ⟨o, ho, OnS.o hL, by rw [prt_L, Int.mul_comm (lng X Y c o)]; exact Int.le_of_lt (Int.mul_lt_mul_of_pos_right T12 hL)⟩
    -- a corner at the crossing
    have at_T : ∀ x, x < n → OnS X Y c o x → prt X Y c o x * T.2 ≠ T.1 * lng X Y c o := fun x hx ox e => by
      have w : cb (m * T.2) (hat X Y x) 0 (hat X Y x) = cb x0 (hat X Y k) y0 (hat X Y (nx n k)) := by
        rw [← q0]
        obtain ⟨a1, a2, _⟩ := cb_xy (cb_lift (m := c) ox.1)
        refine cb_of ?_ ?_ ?_
        · refine Int.eq_of_mul_eq_mul_left (show lng X Y c o ≠ 0 by omega) ?_
          grind
        · refine Int.eq_of_mul_eq_mul_left (show lng X Y c o ≠ 0 by omega) ?_
          grind
        · grind
      have := h.sn.pt hx hk (Int.le_of_lt (Int.mul_pos hm T2)) (Int.le_of_lt hx0) (Int.le_of_lt hy0) w
      omega
    have la' := at_T a an oa
    have lb' := at_T b bn ob
    have lab : prt X Y c o a < prt X Y c o b := by
      have : prt X Y c o a * T.2 < prt X Y c o b * T.2 := by omega
      exact (pos_lt T2).mp this
    have w := (hs a b an bn oa ob lab (fun j jn oj => by
      rintro ⟨z1, z2⟩
      by_cases d : prt X Y c o j * T.2 ≤ T.1 * lng X Y c o
      · have := ma j jn ⟨oj, d⟩; omega
      · have := mb j jn ⟨oj, by omega⟩; omega)).1
    unfold crsd at w
    rw [← Bool.not_eq_true, anyF_iff] at w
    refine w ⟨k, by omega, by omega, ?_⟩
    have tk : x0 * sd X Y c o k + y0 * sd X Y c o (nx n k) = 0 := by
      have := congrArg (dv (hat X Y c) (hat X Y o)) q0
      rw [dv_cb, dv_cb, dv_1, dv_2, hat_dv, hat_dv] at this
      omega
    have tkn : sd X Y c o k * sd X Y c o (nx n k) < 0 := by
      rcases Int.lt_or_gt_of_ne sk with w | w
      · have := Int.mul_neg_of_pos_of_neg hx0 w
        exact Int.mul_neg_of_neg_of_pos w ((pos_mul hy0).mp (by omega))
      · have := Int.mul_pos hx0 w
        exact Int.mul_neg_of_pos_of_neg w ((neg_mul' hy0).mp (by omega))
    have sT : (T.2 - T.1) * sd X Y k (nx n k) c + T.1 * sd X Y k (nx n k) o = 0 := by
      have := congrArg (dv (hat X Y k) (hat X Y (nx n k))) q0
      rw [dv_cb, dv_cb, dv_1, dv_2, hat_dv, hat_dv] at this
      refine (zer_mul hm).mp ?_
      grind
    have sc0 : sd X Y k (nx n k) c ≠ 0 := fun z => by
      rw [z, Int.mul_zero, Int.zero_add] at sT
      have z2 : sd X Y k (nx n k) o = 0 := by
        rcases Int.mul_eq_zero.mp sT with w | w
        · omega
        · exact w
      exact sk (col_in (hD k (nx n k) hk (nx_lt hk) (Ne.symm (nx_ne (by omega) hk))) z z2).1
    have sx : ∀ x, OnS X Y c o x → sd X Y k (nx n k) x * (lng X Y c o * T.1) = sd X Y k (nx n k) c * (T.1 * lng X Y c o - prt X Y c o x * T.2) := fun x ox => by
      have e := congrArg (dv (hat X Y k) (hat X Y (nx n k))) (cb_lift (m := c) ox.1)
      rw [dv_cb, dv_cb, hat_dv, hat_dv, hat_dv] at e
      grind
    unfold crs
    rw [Bool.and_eq_true, decide_eq_true_eq, decide_eq_true_eq]
    constructor
    · have e1 := sd_scale oa.1 ob.1 k
      have e2 := sd_scale oa.1 ob.1 (nx n k)
      rw [← mul_neg_p (k := lng X Y c o) (l := lng X Y c o) hL hL, e1, e2, Int.mul_comm (prt X Y c o b - prt X Y c o a), Int.mul_comm (prt X Y c o b - prt X Y c o a) (sd X Y c o (nx n k))]
      exact (mul_neg_p (by omega) (by omega)).mpr tkn
    · have lt := Int.mul_pos hL T1
      rw [← mul_neg_p (k := lng X Y c o * T.1) (l := lng X Y c o * T.1) lt lt, sx a oa, sx b ob]
      have v3 := Int.mul_neg_of_pos_of_neg (show 0 < T.1 * lng X Y c o - prt X Y c o a * T.2 by omega) (show T.1 * lng X Y c o - prt X Y c o b * T.2 < 0 by omega)
      have v4 : 0 < sd X Y k (nx n k) c * sd X Y k (nx n k) c := by
        rcases Int.lt_or_gt_of_ne sc0 with w | w
        · exact Int.mul_pos_of_neg_of_neg w w
        · exact Int.mul_pos w w
      have v5 := Int.mul_neg_of_pos_of_neg v4 v3
      have v6 : sd X Y k (nx n k) c * (T.1 * lng X Y c o - prt X Y c o a * T.2) * (sd X Y k (nx n k) c * (T.1 * lng X Y c o - prt X Y c o b * T.2)) = sd X Y k (nx n k) c * sd X Y k (nx n k) c * ((T.1 * lng X Y c o - prt X Y c o a * T.2) * (T.1 * lng X Y c o - prt X Y c o b * T.2)) := by grind
      rw [v6]; exact v5
  have cor : ∀ r, r ∈ mtR X Y n c o → ∃ j, j < n ∧ OnS X Y c o j ∧ r.1 * lng X Y c o = prt X Y c o j * r.2 := fun r hr => by
    rcases mt_kind h hc ho hco hr with q | ⟨k, q⟩
    · exact q
    · exact absurd q (nocr k r)
  refine okR_of (mtR X Y n c o) (mt_srt X Y n c o) pp (fun p q pm qm l no => ?_)
  obtain ⟨a, an, oa, ea⟩ := cor p pm
  obtain ⟨b, bn, ob, eb⟩ := cor q qm
  have p0 := pp p pm
  have q0 := pp q qm
  rw [mid_wh hL oa.1 ob.1 p0 q0 ea eb]
  have lab : prt X Y c o a ≤ prt X Y c o b := by
    have u := le2_tr (p := (prt X Y c o a, lng X Y c o)) (q := p) (r := q) hL p0 q0 (by unfold le2; simp only; omega) l
    have u2 := le2_tr (p := (prt X Y c o a, lng X Y c o)) (q := q) (r := (prt X Y c o b, lng X Y c o)) hL q0 hL u (by unfold le2; simp only; omega)
    unfold le2 at u2
    simp only at u2
    exact (pos_le hL).mp u2
  refine decide_eq_true ?_
  by_cases e : prt X Y c o a = prt X Y c o b
  · -- the same corner
    have eab : a = b := by
      refine Classical.byContradiction fun z => ?_
      have d := hD a b an bn z
      have e3 : lng X Y a b * lng X Y c o = (prt X Y c o a - prt X Y c o b) * (prt X Y c o a - prt X Y c o b) + (sd X Y c o a - sd X Y c o b) * (sd X Y c o a - sd X Y c o b) := by unfold lng prt sd; grind
      rw [e, oa.1, ob.1] at e3
      have := Int.mul_pos d hL
      rw [e3] at this
      simp at this
    subst eab
    rw [wh_on hD (by omega) (show (0:Int) < 2 by omega) an (show (0:Int) < 1 by omega) (show (0:Int) ≤ 2 by omega) (Int.le_refl 0) (by
      unfold cb hat; refine v3_ext ?_ ?_ ?_ <;> simp only <;> omega)]
    omega
  · have w := (hs a b an bn oa ob (by omega) (fun j jn oj => by
      rintro ⟨z1, z2⟩
      obtain ⟨rj, rjm, rje⟩ := pv_cor hD (by omega) hc ho hco jn oj.1 oj.2.1 oj.2.2
      have rjp := pp rj rjm
      refine no rj rjm ⟨?_, ?_⟩
      · have u1 : lt2 (prt X Y c o a, lng X Y c o) (prt X Y c o j, lng X Y c o) := by unfold lt2; simp only; exact (pos_lt hL).mpr z1
        have u2 := le_lt2 (p := p) (q := (prt X Y c o a, lng X Y c o)) (r := (prt X Y c o j, lng X Y c o)) p0 hL hL (by unfold le2; simp only; omega) u1
        exact lt_le2 p0 hL rjp u2 (by unfold le2; simp only; omega)
      · have u1 : lt2 (prt X Y c o j, lng X Y c o) (prt X Y c o b, lng X Y c o) := by unfold lt2; simp only; exact (pos_lt hL).mpr z2
        have u2 := le_lt2 (p := rj) (q := (prt X Y c o j, lng X Y c o)) (r := (prt X Y c o b, lng X Y c o)) rjp hL hL (by unfold le2; simp only; omega) u1
        exact lt_le2 rjp hL q0 u2 (by unfold le2; simp only; omega))).2
    rw [pmid_eq] at w
    have := whM_bd X Y n (X a + X b) (Y a + Y b) 2
    omega
