/-! The area and the dots on fences are both odd or both even; ways of a corner. -/
theorem gcd_par (a b : Int) : ((Nat.gcd a.natAbs b.natAbs : Nat) : Int) % 2 = (a + b + a * b) % 2 := by
  have h : 2 ∣ Nat.gcd a.natAbs b.natAbs ↔ 2 ∣ a.natAbs ∧ 2 ∣ b.natAbs := Nat.dvd_gcd_iff
  generalize Nat.gcd a.natAbs b.natAbs = g at h
  have m : a * b % 2 = (a % 2) * (b % 2) % 2 := Int.mul_emod a b 2
  rcases Int.emod_two_eq a with p | p <;> rcases Int.emod_two_eq b with q | q <;> rw [p, q] at m <;> omega
theorem ar_par (X Y : Nat → Int) (i j : Nat) : (ar X Y i j + ((Nat.gcd (X j - X i).natAbs (Y j - Y i).natAbs : Nat) : Int)) % 2 = ((X i + Y i + X i * Y i) + (X j + Y j + X j * Y j)) % 2 := by
  have g := gcd_par (X j - X i) (Y j - Y i)
  generalize Nat.gcd (X j - X i).natAbs (Y j - Y i).natAbs = G at g
  have e : (X j - X i) * (Y j - Y i) = X j * Y j + X i * Y i - X i * Y j - X j * Y i := by grind
  have e2 : ar X Y i j = X i * Y j - X j * Y i := by unfold ar; grind
  rw [e] at g
  rw [e2]
  generalize X i * Y j = u1 at *
  generalize X j * Y i = u2 at *
  generalize X j * Y j = u3 at *
  generalize X i * Y i = u4 at *
  omega
theorem par_sum {X Y : Nat → Int} {n : Nat} : ∀ (d i : Nat) (s : Int) (t : Nat), i + d = n → (itF (arS X Y 0 (n - 1)) i d s + ((itF (fun i s => s + fnM X Y n i) i d t : Nat) : Int)) % 2 = (s + (t : Int) + (if d = 0 then 0 else (X i + Y i + X i * Y i) + (X 0 + Y 0 + X 0 * Y 0))) % 2
  | 0, i, s, t, h => by
    rw [itF, itF, if_pos rfl, Int.add_zero]
  | d + 1, i, s, t, h => by
    rw [itF, itF, par_sum d (i + 1) _ _ (by omega), if_neg (show ¬ d + 1 = 0 by omega)]
    have p := ar_par X Y i (nx n i)
    have e : arS X Y 0 (n - 1) i s = s + ar X Y i (nx n i) := by
      unfold arS nx
      congr 2
      split <;> split <;> omega
    have e2 : fnM X Y n i = Nat.gcd (X (nx n i) - X i).natAbs (Y (nx n i) - Y i).natAbs := rfl
    rw [← e2] at p
    rw [e]
    by_cases c : d = 0
    · have en : nx n i = 0 := by unfold nx; rw [if_neg (by omega)]
      rw [if_pos c]
      rw [en] at p ⊢
      push_cast
      omega
    · have en : nx n i = i + 1 := by unfold nx; rw [if_pos (by omega)]
      rw [if_neg c]
      rw [en] at p ⊢
      push_cast
      omega
theorem area_par {X Y : Nat → Int} {n : Nat} (h2 : 2 ≤ n) : (arM X Y n + (fncM X Y n : Int)) % 2 = 0 := by
  have w := par_sum (X := X) (Y := Y) (n := n) n 0 0 0 (by omega)
  rw [if_neg (by omega)] at w
  rw [← area_eq X Y h2]
  unfold area areaP fncM
  rw [show n - 1 + 1 - 0 = n by omega]
  rw [w]
  omega
theorem bnd_eq {X Y : Nat → Int} {n : Nat} (h2 : 2 ≤ n) (hA : arM X Y n ≠ 0) (i : Nat) : bnd X Y n i = hwM X Y n i := by
  unfold bnd hwM
  rw [area_eq X Y h2]
  generalize sd X Y (pv n i) i (nx n i) = s
  generalize arM X Y n = a at *
  by_cases c : s = 0
  · rw [if_pos c, c]
    rw [if_neg (by split <;> omega), if_pos rfl]
  · rw [if_neg c]
    by_cases c2 : 0 ≤ a
    · rw [if_pos c2]
      by_cases c3 : 0 < s
      · rw [if_pos c3, if_pos (by omega)]
      · rw [if_neg c3, if_neg c, if_neg (by omega)]
    · rw [if_neg c2]
      by_cases c3 : 0 < s
      · rw [if_neg (by omega), if_neg (by omega), if_neg c]
      · rw [if_pos (by omega), if_pos (by omega)]
theorem bnd_c {n : Nat} {X Y X' Y' : Nat → Int} (hx : Ag n X X') (hy : Ag n Y Y') {i : Nat} (hi : i < n) : bnd X Y n i = bnd X' Y' n i := by
  unfold bnd
  rw [sd_c hx hy (pv_lt hi) hi (nx_lt hi), area_c hx hy (by omega)]
/-- how, once no sound field has area 0 -/
theorem how_of {Z : CZ} {M : MZ} (hI : Inv Z M) (hW : ∀ p, p < 4 → sM M p = true → arM (fw (mX M) p) (fw (mY M) p) (mM M p) ≠ 0) (f c : Int) : aHow Z f c = bHow M f c := by
  unfold aHow bHow
  rw [cB_eq hI]
  by_cases h : cnM (mM M) f c = true
  · rw [if_pos h, if_pos h]
    obtain ⟨p, r, hp, hr, rfl, rfl⟩ := cnM_t h
    rw [i_nn, i_nn, sn_eq hI hp, hI.N hp]
    by_cases q : sM M p = true
    · have h3 := sM_3 q
      rw [if_pos q, if_pos q, bnd_c (hI.X hp) (hI.Y hp) hr, bnd_eq (by omega) (hW p hp q)]
    · rw [if_neg q, if_neg q]
  · rw [if_neg h, if_neg h]
theorem fnc2_eq {n : Nat} {X Y X' Y' : Nat → Int} (hx : Ag n X X') (hy : Ag n Y Y') (h2 : 2 ≤ n) (hA : arM X' Y' n ≠ 0) (t : Int) : fnc2 X Y n t = itF (knS X' Y' n t) 0 n 0 := by
  unfold fnc2
  refine itF_congr _ _ _ (fun k h1 hk s => ?_)
  unfold knS
  rw [bnd_c hx hy (show k < n by omega), bnd_eq h2 hA]
  split <;> omega
/-- what a field is told to be, once no sound field has area 0 and cuts are alike -/
theorem about_of {Z : CZ} {M : MZ} (hI : Inv Z M) (hW : ∀ p, p < 4 → sM M p = true → arM (fw (mX M) p) (fw (mY M) p) (mM M p) ≠ 0) (hC : ∀ p, p < 4 → sM M p = true → (ptZ Z p).1 = (cuW (fw (mX M) p) (fw (mY M) p) (mM M p)).1 ∧ (ptZ Z p).2.1 = (cuW (fw (mX M) p) (fw (mY M) p) (mM M p)).2) (f k : Int) : aAbout Z f k = bAbout M f k := by
  unfold aAbout bAbout
  by_cases h : fB f = true
  · obtain ⟨p, hp, rfl⟩ := fB_t h
    rw [if_pos h, if_pos h, i_nn, sn_eq hI hp]
    by_cases c : 0 ≤ k ∧ k ≤ 8
    · rw [if_pos c, if_pos c]
      by_cases s : sM M p = true
      · have h3 := sM_3 s
        rw [if_pos s, if_pos s, hI.N hp]
        have e1 : area (zX Z p) (zY Z p) (mM M p) = arM (fw (mX M) p) (fw (mY M) p) (mM M p) := by rw [area_c (hI.X hp) (hI.Y hp) (by omega), area_eq _ _ (by omega)]
        have e2 : fenc (zX Z p) (zY Z p) (mM M p) = fncM (fw (mX M) p) (fw (mY M) p) (mM M p) := by rw [fenc_c (hI.X hp) (hI.Y hp), fenc_eq (hI.R hp) (hI.D hp) (by omega)]
        have e3 := fun t => fnc2_eq (hI.X hp) (hI.Y hp) (by omega) (hW p hp s) t
        have pa := area_par (X := fw (mX M) p) (Y := fw (mY M) p) (n := mM M p) (by omega)
        unfold ashp acut abM
        rw [e1, e2, e3, e3, hI.N hp, snum_eq hI hp s, (hC p hp s).1, (hC p hp s).2]
        by_cases k0 : k = 0
        · rw [if_pos (by omega), if_pos k0, if_pos k0]
        by_cases k1 : k = 1
        · rw [if_pos (by omega), if_neg k0, if_neg k0, if_pos k1, if_pos k1]
        by_cases k2 : k = 2
        · rw [if_pos (by omega), if_neg k0, if_neg k0, if_neg k1, if_neg k1, if_pos k2, if_pos k2]
        by_cases k3 : k = 3
        · rw [if_pos (by omega), if_neg k0, if_neg k0, if_neg k1, if_neg k1, if_neg k2, if_neg k2, if_pos k3, if_pos k3]
          generalize arM (fw (mX M) p) (fw (mY M) p) (mM M p) = a at *
          generalize fncM (fw (mX M) p) (fw (mY M) p) (mM M p) = b at *
          obtain ⟨w, ew⟩ : ∃ w, (a.natAbs : Int) - (b : Int) = 2 * w := ⟨((a.natAbs : Int) - (b : Int)) / 2, by omega⟩
          rw [ew, show 2 * w + 2 = 2 * (w + 1) by omega, Int.mul_tdiv_cancel_left _ (by omega), Int.mul_tdiv_cancel_left _ (by omega)]
        by_cases k4 : k = 4
        · rw [if_pos (by omega), if_neg k0, if_neg k0, if_neg k1, if_neg k1, if_neg k2, if_neg k2, if_neg k3, if_neg k3, if_pos k4, if_pos k4, if_neg (by omega), if_neg (by omega), if_neg (by omega)]
        by_cases k5 : k = 5
        · rw [if_pos (by omega), if_neg k0, if_neg k0, if_neg k1, if_neg k1, if_neg k2, if_neg k2, if_neg k3, if_neg k3, if_neg k4, if_neg k4, if_neg (by omega), if_neg (by omega), if_neg (by omega)]
        rw [if_neg (by omega), if_neg k0, if_neg k1, if_neg k2, if_neg k3]
        by_cases k6 : k = 6
        · rw [if_pos k6, if_pos k6]
        by_cases k7 : k = 7
        · rw [if_neg k6, if_neg k6, if_pos k7, if_pos k7]
        · rw [if_neg k6, if_neg k6, if_neg k7, if_neg k7, if_pos (by omega)]
      · rw [if_neg s, if_neg s]
    · rw [if_neg c, if_neg c]
  · rw [if_neg h, if_neg h]
