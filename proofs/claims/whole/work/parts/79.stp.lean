/-! The calls that rest on strips. -/
theorem near_c {n : Nat} {X Y X' Y' : Nat → Int} (hx : Ag n X X') (hy : Ag n Y Y') {a : Nat} (ha : a < n) : ∀ (d i s : Nat), i + d ≤ n → s < n → itF (nst X Y a) i d s = itF (nst X' Y' a) i d s ∧ itF (nst X Y a) i d s < n
  | 0, i, s, h, hs => ⟨rfl, hs⟩
  | d + 1, i, s, h, hs => by
    have e : nst X Y a i s = nst X' Y' a i s := by unfold nst; rw [btw_c hx hy ha hs (by omega)]
    rw [itF, itF, ← e]
    exact near_c hx hy ha d (i + 1) _ (by omega) (by unfold nst; split <;> omega)
theorem crs_c {n : Nat} {X Y X' Y' : Nat → Int} (hx : Ag n X X') (hy : Ag n Y Y') {a b c d : Nat} (ha : a < n) (hb : b < n) (hc : c < n) (hd : d < n) : crs X Y a b c d = crs X' Y' a b c d := by
  unfold crs
  rw [sd_c hx hy ha hb hc, sd_c hx hy ha hb hd, sd_c hx hy hc hd ha, sd_c hx hy hc hd hb]
theorem crsd_c {n : Nat} {X Y X' Y' : Nat → Int} (hx : Ag n X X') (hy : Ag n Y Y') {a b : Nat} (ha : a < n) (hb : b < n) : crsd X Y n a b = crsd X' Y' n a b := by
  unfold crsd
  refine anyF_c _ _ (fun i h1 h2 => ?_)
  exact crs_c hx hy ha hb (by omega) (nx_lt (by omega))
theorem pmid_c {n : Nat} {X Y X' Y' : Nat → Int} (hx : Ag n X X') (hy : Ag n Y Y') {a b : Nat} (ha : a < n) (hb : b < n) : pmid X Y n a b = pmid X' Y' n a b := by
  rw [pmid_eq, pmid_eq, whM_c hx hy, hx a ha, hx b hb, hy a ha, hy b hb]
theorem stripC_c {n : Nat} {X Y X' Y' : Nat → Int} (hx : Ag n X X') (hy : Ag n Y Y') {a b : Nat} (ha : a < n) (hb : b < n) : stripC X Y n a b = stripC X' Y' n a b := by
  unfold stripC near
  rw [(near_c hx hy ha n 0 b (by omega) hb).1, crsd_c hx hy ha hb, pmid_c hx hy ha hb]
theorem Inv.S {Z : CZ} {M : MZ} (hI : Inv Z M) {f : Nat} (hf : f < 4) (h : sM M f = true) : SndF (mM M f) (fw (mX M) f) (fw (mY M) f) := SndF.of (hI.R hf) (hI.D hf) h
theorem sp_eq {Z : CZ} {M : MZ} (hI : Inv Z M) {f : Nat} (hf : f < 4) (h : sM M f = true) {a b : Nat} (ha : a < mM M f) (hb : b < mM M f) : stripC (zX Z f) (zY Z f) (mM M f) a b = spM (fw (mX M) f) (fw (mY M) f) (mM M f) a b := by
  rw [stripC_c (hI.X hf) (hI.Y hf) ha hb, strip_eq (hI.S hf h) ha hb]
theorem ob_strip {Z : CZ} {M : MZ} (hI : Inv Z M) (f c d : Int) : aStrip Z f c d = bStrip M f c d := by
  unfold aStrip bStrip
  rw [cB_eq hI, cB_eq hI]
  by_cases h : cnM (mM M) f c = true ∧ cnM (mM M) f d = true ∧ c ≠ d
  · rw [if_pos h, if_pos h]
    obtain ⟨p, r, hp, hr, rfl, rfl⟩ := cnM_t h.1
    obtain ⟨p', s, hp', hs, e, rfl⟩ := cnM_t h.2.1
    obtain rfl : p = p' := by omega
    rw [i_nn, i_nn, i_nn, sn_eq hI hp, hI.N hp]
    by_cases q : sM M p = true
    · rw [if_pos q, if_pos q, sp_eq hI hp q hr hs]
    · rw [if_neg q, if_neg q]
  · rw [if_neg h, if_neg h]
theorem spM_ne {X Y : Nat → Int} {n a b : Nat} (h : spM X Y n a b = true) : a ≠ b := by
  intro e
  unfold spM adjM at h
  rw [decide_eq_true (Or.inl e)] at h
  cases h
theorem ob_sides {Z : CZ} {M : MZ} (hI : Inv Z M) (f c d : Int) : aSides Z f c d = bSides M f c d := by
  unfold aSides bSides
  rw [cB_eq hI, cB_eq hI]
  by_cases h : cnM (mM M) f c = true ∧ cnM (mM M) f d = true
  · rw [if_pos h, if_pos h]
    obtain ⟨p, r, hp, hr, rfl, rfl⟩ := cnM_t h.1
    obtain ⟨p', s, hp', hs, e, rfl⟩ := cnM_t h.2
    obtain rfl : p = p' := by omega
    rw [i_nn, i_nn, i_nn, sn_eq hI hp, hI.N hp]
    by_cases q : sM M p = true
    · rw [sp_eq hI hp q hr hs]
      by_cases q2 : spM (fw (mX M) p) (fw (mY M) p) (mM M p) r s = true
      · rw [if_pos ⟨q, q2⟩, if_pos ⟨q, q2⟩, unl_c (hI.X hp) (hI.Y hp) hr hs, unl_eq _ _ (by have := sM_3 q; omega) (spM_ne q2)]
      · rw [if_neg (fun z => q2 z.2), if_neg (fun z => q2 z.2)]
    · rw [if_neg (fun z => q z.1), if_neg (fun z => q z.1)]
  · rw [if_neg h, if_neg h]
theorem itF_id {α : Type} {f : Nat → α → α} : ∀ (d i : Nat) (s : α), (∀ k, i ≤ k → k < i + d → ∀ s, f k s = s) → itF f i d s = s
  | 0, i, s, h => rfl
  | d + 1, i, s, h => by rw [itF, h i (by omega) (by omega), itF_id d (i + 1) s (fun k h1 h2 => h k (by omega) (by omega))]
theorem itF_sim {α β : Type} {f : Nat → α → α} {g : Nat → β → β} {R : α → β → Prop} : ∀ (d i : Nat) (s : α) (t : β), (∀ k, i ≤ k → k < i + d → ∀ s t, R s t → R (f k s) (g k t)) → R s t → R (itF f i d s) (itF g i d t)
  | 0, i, s, t, h, hr => hr
  | d + 1, i, s, t, h, hr => by
    rw [itF, itF]
    exact itF_sim d (i + 1) _ _ (fun k h1 h2 => h k (by omega) (by omega)) (h i (by omega) (by omega) s t hr)
theorem itF_cut0 {α : Type} {f : Nat → α → α} {m n : Nat} (hnm : n ≤ m) (h2 : ∀ k, n ≤ k → k < m → ∀ s, f k s = s) (s : α) : itF f 0 m s = itF f 0 n s := by
  obtain ⟨e, rfl⟩ : ∃ e, m = n + e := ⟨m - n, by omega⟩
  rw [itF_add, itF_id e]
  intro k k1 k2 s
  exact h2 k (by omega) (by omega) s
theorem itF_cut {α : Type} {f : Nat → α → α} {m n a : Nat} (han : a < n) (hnm : n ≤ m) (h1 : ∀ k, k ≤ a → ∀ s, f k s = s) (h2 : ∀ k, n ≤ k → k < m → ∀ s, f k s = s) (s : α) : itF f 0 m s = itF f (a + 1) (n - (a + 1)) s := by
  rw [itF_cut0 hnm h2]
  obtain ⟨e, rfl⟩ : ∃ e, n = a + 1 + e := ⟨n - (a + 1), by omega⟩
  rw [itF_add, itF_id (a + 1), Nat.zero_add, show a + 1 + e - (a + 1) = e by omega]
  intro k k1 k2 s
  exact h1 k (by omega) s
/-- a loop over all 100 pairs that does something only at those with x < y < n -/
theorem itF_pairs {α : Type} {n : Nat} (hn : n ≤ 10) (F : Nat → α → α) (hF : ∀ k s, ¬ (k / 10 < k % 10 ∧ k % 10 < n) → F k s = s) (s : α) : itF F 0 100 s = itF (fun a s => itF (fun b => F (10 * a + b)) (a + 1) (n - (a + 1)) s) 0 n s := by
  have w := itF_sq 10 (fun x y => F (10 * x + y)) F (fun x y hy => rfl) 10 0 s
  rw [show 10 * 0 = 0 from rfl, show 10 * 10 = 100 from rfl] at w
  rw [w, itF_cut0 hn (fun a a1 a2 s => itF_id _ _ _ (fun k k1 k2 s => hF _ _ (by omega)))]
  refine itF_congr _ _ _ (fun a h1 h2 s => ?_)
  exact itF_cut (by omega) hn (fun k k1 s => hF _ _ (by omega)) (fun k k1 k2 s => hF _ _ (by omega)) s
theorem ob_fair {Z : CZ} {M : MZ} (hI : Inv Z M) (f : Int) : aFair Z f = bFair M f := by
  unfold aFair bFair
  by_cases h : fB f = true
  · obtain ⟨p, hp, rfl⟩ := fB_t h
    rw [if_pos h, if_pos h, i_nn, sn_eq hI hp, hI.N hp]
    by_cases q : sM M p = true
    · rw [if_pos q, if_pos q]
      have h3 := sM_3 q
      have n10 := hI.n10 hp
      rw [itF_pairs n10 (frM (fw (mX M) p) (fw (mY M) p) (mM M p)) (fun k s hk => by
        unfold frM
        rw [if_neg (fun z => hk ?_)]
        have := z.1
        unfold stB at this
        simp only [Bool.and_eq_true, decide_eq_true_eq] at this
        exact this.1)]
      unfold frS
      have sim : ∀ s t : Int × Int, ((s.1 = -9 ∧ t = (-9, 1000000)) ∨ (s.1 ≠ -9 ∧ t = s)) → s.1 = t.1 := by
        rintro s t (⟨a, b⟩ | ⟨a, b⟩)
        · rw [b, a]
        · rw [b]
      refine sim _ _ ?_
      refine itF_sim (R := fun s t => (s.1 = -9 ∧ t = (-9, 1000000)) ∨ (s.1 ≠ -9 ∧ t = s)) (mM M p) 0 ((-9, 0) : Int × Int) ((-9, 1000000) : Int × Int) (fun a a1 a2 s t hR => ?_) (Or.inl ⟨rfl, rfl⟩)
      refine itF_sim (R := fun s t => (s.1 = -9 ∧ t = (-9, 1000000)) ∨ (s.1 ≠ -9 ∧ t = s)) (mM M p - (a + 1)) (a + 1) s t (fun b b1 b2 s t hR => ?_) hR
      have ha : a < mM M p := by omega
      have hb : b < mM M p := by omega
      have e1 : (10 * a + b) / 10 = a := by omega
      have e2 : (10 * a + b) % 10 = b := by omega
      have ub := sdsM_bd (hI.R hp) (by omega) n10 ha hb
      unfold frT frM stB
      rw [sp_eq hI hp q ha hb, unl_c (hI.X hp) (hI.Y hp) ha hb, unl_eq _ _ (by omega) (by omega), e1, e2, decide_eq_true (show a < b ∧ b < mM M p by omega), Bool.true_and]
      by_cases c : spM (fw (mX M) p) (fw (mY M) p) (mM M p) a b = true
      · rcases hR with ⟨r1, r2⟩ | ⟨r1, r2⟩
        · rw [if_pos ⟨c, Or.inl r1⟩, r2, if_pos ⟨c, by dsimp only; omega⟩]
          refine Or.inr ⟨by dsimp only; omega, ?_⟩
          push_cast; rfl
        · subst r2
          by_cases c2 : (sdsM (fw (mX M) p) (fw (mY M) p) (mM M p) a b : Int) < t.2
          · rw [if_pos ⟨c, Or.inr c2⟩, if_pos ⟨c, c2⟩]
            refine Or.inr ⟨by dsimp only; omega, ?_⟩
            push_cast; rfl
          · rw [if_neg (fun z => z.2.elim r1 c2), if_neg (fun z => c2 z.2)]
            exact Or.inr ⟨r1, rfl⟩
      · rw [if_neg (fun z => c z.1), if_neg (fun z => c z.1)]
        exact hR
    · rw [if_neg q, if_neg q]
  · rw [if_neg h, if_neg h]
theorem itF_plus (g : Nat → Nat) : ∀ (d i s : Nat), itF (fun k s => s + g k) i d s = s + itF (fun k s => s + g k) i d 0
  | 0, i, s => rfl
  | d + 1, i, s => by
    rw [itF, itF, itF_plus g d (i + 1) (s + g i), itF_plus g d (i + 1) (0 + g i)]
    omega
theorem snum_eq {Z : CZ} {M : MZ} (hI : Inv Z M) {p : Nat} (hp : p < 4) (q : sM M p = true) : sNum (zX Z p) (zY Z p) (mM M p) = itF (nsS (fw (mX M) p) (fw (mY M) p) (mM M p)) 0 100 0 := by
  have n10 := hI.n10 hp
  rw [itF_pairs n10 (nsS (fw (mX M) p) (fw (mY M) p) (mM M p)) (fun k s hk => by
    unfold nsS
    rw [if_neg, Nat.add_zero]
    intro z
    unfold stB at z
    simp only [Bool.and_eq_true, decide_eq_true_eq] at z
    exact hk z.1)]
  unfold sNum
  refine itF_congr _ _ _ (fun a a1 a2 s => ?_)
  unfold pop
  rw [show (fun (i s : Nat) => s + if (bits (sB (zX Z p) (zY Z p) (mM M p) a)).testBit i = true then 1 else 0) = (fun i s => s + (fun i => if (bits (sB (zX Z p) (zY Z p) (mM M p) a)).testBit i = true then 1 else 0) i) from rfl, ← itF_plus]
  have no : ∀ k, ¬ (a < k ∧ k < mM M p) → ∀ s : Nat, (s + (fun i => if (bits (sB (zX Z p) (zY Z p) (mM M p) a)).testBit i = true then 1 else 0) k) = s := fun k hk s => by
    show (s + if (bits (sB (zX Z p) (zY Z p) (mM M p) a)).testBit k = true then 1 else 0) = s
    rw [bits_test]
    unfold sB
    rw [decide_eq_false hk]
    simp
  rw [itF_cut (n := mM M p) (a := a) (by omega) n10 (fun k k1 s => no k (by omega) s) (fun k k1 k2 s => no k (by omega) s)]
  refine itF_congr _ _ _ (fun b b1 b2 t => ?_)
  have ha : a < mM M p := by omega
  have hb : b < mM M p := by omega
  show (t + if (bits (sB (zX Z p) (zY Z p) (mM M p) a)).testBit b = true then 1 else 0) = _
  unfold nsS stB
  rw [bits_test, decide_eq_true (show b < 10 by omega), Bool.true_and]
  unfold sB
  rw [show (10 * a + b) / 10 = a by omega, show (10 * a + b) % 10 = b by omega, decide_eq_true (show a < b ∧ b < mM M p by omega), Bool.true_and, Bool.true_and, sp_eq hI hp q ha hb]
