/-! Hops: the search arrives, and both count alike. -/
theorem itr_sh {α : Type} (g : α → α) : ∀ (k : Nat) (a : α), itr g (k + 1) a = itr g k (g a)
  | 0, a => rfl
  | k + 1, a => by
    show g (itr g (k + 1) a) = g (itr g k (g a))
    rw [itr_sh g k a]
theorem sp_least {V : Nat → Nat} {n t : Nat} : ∀ (d st m N : Nat), N ≤ d → (itr (wsn V n) N m).testBit t = true → (∀ k, k < N → (itr (wsn V n) k m).testBit t = false) → spF V n t d st m = st + N
  | 0, st, m, N, h, _, _ => by
    obtain rfl : N = 0 := by omega
    rfl
  | d + 1, st, m, 0, h, h1, _ => by
    have h1' : m.testBit t = true := h1
    rw [spF, if_pos h1']
    rfl
  | d + 1, st, m, N + 1, h, h1, h2 => by
    have h0 : m.testBit t = false := h2 0 (by omega)
    rw [spF, h0, if_neg (fun z => by cases z)]
    rw [itr_sh] at h1
    rw [sp_least d (st + 1) (wsn V n m) N (by omega) h1 (fun k hk => by rw [← itr_sh]; exact h2 (k + 1) (by omega))]
    omega
theorem wsn_self {X Y : Nat → Int} {n m : Nat} (hn : n ≤ 10) (hm : m < 2 ^ n) : wsn (svV X Y n) n m = sgtV (svV X Y n) n m := by
  refine Nat.eq_of_testBit_eq fun j => ?_
  rw [Bool.eq_iff_iff]
  unfold wsn sgtV
  rw [ws_test, ws_test, Nat.zero_testBit]
  constructor
  · rintro (h | h)
    · have hj : j < n := by
        refine Classical.byContradiction fun z => ?_
        rw [Nat.testBit_lt_two_pow (Nat.lt_of_lt_of_le hm (Nat.pow_le_pow_right (n := 2) (by omega) (show n ≤ j by omega)))] at h
        cases h
      refine Or.inr ⟨j, by omega, by omega, h, ?_⟩
      unfold svV svP
      rw [bits_test, decide_eq_true (show j < 10 by omega), decide_eq_true (rfl : j = j)]
      rfl
    · exact Or.inr h
  · rintro (h | h)
    · cases h
    · exact Or.inr h
theorem sgt_lt {X Y : Nat → Int} {n m : Nat} : sgtV (svV X Y n) n m < 2 ^ n := by
  refine lt_of_test fun j hj => ?_
  rw [← Bool.not_eq_true]
  unfold sgtV
  rw [ws_test, Nat.zero_testBit]
  rintro (h | ⟨a, h1, h2, h3, h4⟩)
  · cases h
  · unfold svV svP at h4
    rw [bits_test, Bool.and_eq_true, Bool.or_eq_true, decide_eq_true_eq, decide_eq_true_eq, Bool.and_eq_true, decide_eq_true_eq] at h4
    rcases h4.2 with w | w
    · omega
    · omega
theorem cnM_i {m : Nat → Nat} {p r : Nat} (hp : p < 4) (hr : r < m p) : cnM m (p : Int) (r : Int) = true := by
  unfold cnM fB
  rw [i_nn, decide_eq_true (show 0 ≤ (p : Int) ∧ (p : Int) < 4 by omega), decide_eq_true (show 0 ≤ (r : Int) ∧ (r : Int) < (m p : Int) by omega)]
  rfl
theorem orb_lt {X Y : Nat → Int} {n m : Nat} (hn : n ≤ 10) (hm : m < 2 ^ n) : ∀ k, itr (wsn (svV X Y n) n) k m < 2 ^ n
  | 0 => hm
  | k + 1 => by
    show wsn (svV X Y n) n (itr (wsn (svV X Y n) n) k m) < 2 ^ n
    rw [wsn_self hn (orb_lt hn hm k)]
    exact sgt_lt
theorem orb_eq {X Y X' Y' : Nat → Int} {n m : Nat} (hn : n ≤ 10) (hm : m < 2 ^ n) (hS : ∀ i j, i < n → j < n → i ≠ j → svC X Y n (min i j) (max i j) = sgM X' Y' n i j) : ∀ k, itr (wsn (fun i => bits (vB X Y n i)) n) k m = itr (wsn (svV X' Y' n) n) k m
  | 0 => rfl
  | k + 1 => by
    show wsn _ n (itr _ k m) = wsn _ n (itr _ k m)
    rw [orb_eq hn hm hS k, wsn_eq hn (orb_lt hn hm k) hS, wsn_self hn (orb_lt hn hm k)]
theorem orb_go {X Y : Nat → Int} {n c : Nat} (hn : n ≤ 10) (hc : c < n) (hA : ∀ i, i < n → sgM X Y n i (nx n i) = true) : ∀ k, k < n → (itr (wsn (svV X Y n) n) k (2 ^ c)).testBit (if c + k < n then c + k else c + k - n) = true
  | 0, hk => by
    rw [if_pos (by omega)]
    exact Nat.testBit_two_pow_self
  | k + 1, hk => by
    have w := orb_go hn hc hA k (by omega)
    show (wsn (svV X Y n) n (itr (wsn (svV X Y n) n) k (2 ^ c))).testBit _ = true
    unfold wsn
    rw [ws_test]
    refine Or.inr ⟨_, Nat.zero_le _, ?_, w, ?_⟩
    · split <;> omega
    · have hi : (if c + k < n then c + k else c + k - n) < n := by split <;> omega
      have e : (if c + (k + 1) < n then c + (k + 1) else c + (k + 1) - n) = nx n (if c + k < n then c + k else c + k - n) := by
        unfold nx
        split <;> split <;> split <;> omega
      rw [e]
      have hx := nx_lt hi
      have q := hA _ hi
      unfold svV svP
      rw [bits_test, decide_eq_true (show nx n _ < 10 by omega), decide_eq_true hx, q]
      simp
/-- the hops, once sight is alike and neighbours see each other -/
theorem hops_of {Z : CZ} {M : MZ} (hI : Inv Z M) (hS : ∀ p, p < 4 → sM M p = true → ∀ i j, i < mM M p → j < mM M p → i ≠ j → svC (zX Z p) (zY Z p) (mM M p) (min i j) (max i j) = sgM (fw (mX M) p) (fw (mY M) p) (mM M p) i j) (hA : ∀ p, p < 4 → sM M p = true → ∀ i, i < mM M p → sgM (fw (mX M) p) (fw (mY M) p) (mM M p) i (nx (mM M p) i) = true) (f c d : Int) : ∃ N : Nat, (∀ p r s : Nat, p < 4 → r < mM M p → s < mM M p → f = (p : Int) → c = (r : Int) → d = (s : Int) → sM M p = true → (itr (wsn (hpV M p) (mM M p)) N (2 ^ r)).testBit s = true ∧ ∀ k, k < N → (itr (wsn (hpV M p) (mM M p)) k (2 ^ r)).testBit s = false) ∧ aHops Z f c d = (if cnM (mM M) f c = true ∧ cnM (mM M) f d = true then (if sM M f.toNat = true then (N : Int) else -3) else -1) := by
  unfold aHops
  rw [cB_eq hI, cB_eq hI]
  by_cases h : cnM (mM M) f c = true ∧ cnM (mM M) f d = true
  · obtain ⟨p, r, hp, hr, rfl, rfl⟩ := cnM_t h.1
    obtain ⟨p', s, hp', hs, e, rfl⟩ := cnM_t h.2
    obtain rfl : p = p' := by omega
    rw [if_pos h, i_nn, i_nn, i_nn, sn_eq hI hp, hI.N hp]
    by_cases q : sM M p = true
    · have n10 := hI.n10 hp
      have hm : 2 ^ r < 2 ^ mM M p := Nat.pow_lt_pow_right (by omega) hr
      have go := orb_go n10 hr (hA p hp q) (if r ≤ s then s - r else s + mM M p - r) (by split <;> omega)
      have es : (if r + (if r ≤ s then s - r else s + mM M p - r) < mM M p then r + (if r ≤ s then s - r else s + mM M p - r) else r + (if r ≤ s then s - r else s + mM M p - r) - mM M p) = s := by
        split <;> split <;> omega
      rw [es] at go
      obtain ⟨N, a1, a2, a3⟩ := least_of (P := fun k => (itr (wsn (hpV M p) (mM M p)) k (2 ^ r)).testBit s = true) (mM M p) _ (by split <;> omega) go
      have a4 : ∀ k, k < N → (itr (wsn (hpV M p) (mM M p)) k (2 ^ r)).testBit s = false := fun k hk => by
        have := a3 k hk
        rw [← Bool.not_eq_true]
        exact this
      refine ⟨N, fun p' r' s' _ _ _ e1 e2 e3 _ => ?_, ?_⟩
      · obtain rfl : p = p' := by omega
        obtain rfl : r = r' := by omega
        obtain rfl : s = s' := by omega
        exact ⟨a2, a4⟩
      · rw [if_pos q, if_pos h, if_pos q]
        congr 1
        have ev : VZ Z p = fun i => bits (vB (zX Z p) (zY Z p) (mM M p) i) := by
          funext i
          unfold VZ
          rw [hI.N hp]
        have oe := orb_eq n10 hm (hS p hp q)
        rw [ev, sp_least (mM M p) 0 (2 ^ r) N a1 (by rw [oe]; exact a2) (fun k hk => by rw [oe]; exact a4 k hk), Nat.zero_add]
    · refine ⟨0, fun p' r' s' _ _ _ e1 e2 e3 z => ?_, ?_⟩
      · obtain rfl : p = p' := by omega
        exact absurd z q
      · rw [if_neg q, if_pos h, if_neg q]
  · refine ⟨0, fun p' r' s' hp hr hs e1 e2 e3 z => ?_, ?_⟩
    · refine absurd ?_ h
      subst e1
      subst e2
      subst e3
      exact ⟨cnM_i hp hr, cnM_i hp hs⟩
    · rw [if_neg h, if_neg h]
