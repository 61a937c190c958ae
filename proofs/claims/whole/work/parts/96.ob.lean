/-! What is owed: the class's answers are the reference's. -/
theorem ob_write {Z : CZ} {M : MZ} (hI : Inv Z M) (n : Int) (v : Int64) : aWrite Z n = bWrite M n ∧ Inv (zWrite Z n v) (yWrite M n v) := sorry
theorem ob_wipe {Z : CZ} {M : MZ} (hI : Inv Z M) : zL Z = mL M ∧ Inv (setT Z 0 (zB Z)) (mT M 0 (mB M)) := sorry
theorem ob_fault {Z : CZ} {M : MZ} (hI : Inv Z M) : aFault Z = bFault M := sorry
theorem ob_field {Z : CZ} {M : MZ} (hI : Inv Z M) (f : Int) : aField Z f = bField M f ∧ Inv (zField Z f) (yField M f) := sorry
def bCorner (M : MZ) (f c a : Int) : Int := if cnM (mM M) f c = true then (if a = 0 then fw (mX M) f.toNat c.toNat else if a = 1 then fw (mY M) f.toNat c.toNat else -2) else -1
theorem ob_corner {Z : CZ} {M : MZ} (hI : Inv Z M) (f c a : Int) : aCorner Z f c a = bCorner M f c a := sorry
theorem ob_move {Z : CZ} {M : MZ} (hI : Inv Z M) (f c x y : Int) : aMove Z f c x y = bMove M f c x y ∧ Inv (zMove Z f c x y) (yMove M f c x y) := sorry
theorem ob_put {Z : CZ} {M : MZ} (hI : Inv Z M) (f c x y : Int) : aPut Z f c x y = bPut M f c x y ∧ Inv (zPut Z f c x y) (yPut M f c x y) := sorry
theorem ob_take {Z : CZ} {M : MZ} (hI : Inv Z M) (f c : Int) : aTake Z f c = bTake M f c ∧ Inv (zTake Z f c) (yTake M f c) := sorry
theorem ob_turn {Z : CZ} {M : MZ} (hI : Inv Z M) (f t : Int) : aTurn Z f t = bTurn M f t ∧ Inv (zTurn Z f t) (yTurn M f t) := sorry
theorem ob_shift {Z : CZ} {M : MZ} (hI : Inv Z M) (f x y : Int) : aShift Z f x y = bShift M f x y ∧ Inv (zShift Z f x y) (yShift M f x y) := sorry
theorem ob_sound {Z : CZ} {M : MZ} (hI : Inv Z M) (f : Int) : aSound Z f = bSound M f := sorry
theorem ob_about {Z : CZ} {M : MZ} (hI : Inv Z M) (f k : Int) : aAbout Z f k = bAbout M f k := sorry
theorem ob_where {Z : CZ} {M : MZ} (hI : Inv Z M) (f x y : Int) : aWhere Z f x y = bWhere M f x y := sorry
theorem ob_how {Z : CZ} {M : MZ} (hI : Inv Z M) (f c : Int) : aHow Z f c = bHow M f c := sorry
theorem ob_wide {Z : CZ} {M : MZ} (hI : Inv Z M) (f a b : Int) : aWide Z f a b = wiM (mX M) (mY M) (mM M) f a b := sorry
theorem ob_narrow {Z : CZ} {M : MZ} (hI : Inv Z M) (f k : Int) : aNarrow Z f k = bNarrow M f k := sorry
theorem ob_grown {Z : CZ} {M : MZ} (hI : Inv Z M) (f k : Int) : aGrown Z f k = bGrown M f k := sorry
/-- N: how many corners the hull has -/
theorem ob_hull {Z : CZ} {M : MZ} (hI : Inv Z M) (f g : Int) : ∃ N : Nat, (∀ r : Nat, r < 4 → g = (r : Int) → (hu1 (fw (mX M) r) (fw (mY M) r) (mM M r)).2 = false → hNo (fw (mX M) r) (fw (mY M) r) (mM M r) N) ∧ aHull Z f g = bHull M f g N ∧ Inv (zHull Z f g) (yHull M f g N) := sorry
theorem ob_sees {Z : CZ} {M : MZ} (hI : Inv Z M) (f c d : Int) : aSees Z f c d = bSees M f c d := sorry
theorem ob_strip {Z : CZ} {M : MZ} (hI : Inv Z M) (f c d : Int) : aStrip Z f c d = bStrip M f c d := sorry
theorem ob_least {Z : CZ} {M : MZ} (hI : Inv Z M) (f k : Int) : aLeast Z f k = bLeast M f k := sorry
theorem ob_fair {Z : CZ} {M : MZ} (hI : Inv Z M) (f : Int) : aFair Z f = bFair M f := sorry
theorem ob_sides {Z : CZ} {M : MZ} (hI : Inv Z M) (f c d : Int) : aSides Z f c d = bSides M f c d := sorry
theorem ob_guards {Z : CZ} {M : MZ} (hI : Inv Z M) (f : Int) : aGuards Z f = bGuards M f := sorry
/-- N: the hops, by the reference's own loop -/
theorem ob_hops {Z : CZ} {M : MZ} (hI : Inv Z M) (f c d : Int) : ∃ N : Nat, (∀ p r s : Nat, p < 4 → r < mM M p → s < mM M p → f = (p : Int) → c = (r : Int) → d = (s : Int) → sM M p = true → (itr (wsn (hpV M p) (mM M p)) N (2 ^ r)).testBit s = true ∧ ∀ k, k < N → (itr (wsn (hpV M p) (mM M p)) k (2 ^ r)).testBit s = false) ∧ aHops Z f c d = (if cnM (mM M) f c = true ∧ cnM (mM M) f d = true then (if sM M f.toNat = true then (N : Int) else -3) else -1) := sorry
theorem ob_alike {Z : CZ} {M : MZ} (hI : Inv Z M) (f g : Int) : ∃ T : Nat, (∀ p : Nat, p < 4 → f = (p : Int) → sM M p = true → thd (fw (mX M) p) (fw (mY M) p) (mM M p) T) ∧ aAlike Z f g = bAlike M f g T ∧ aMir Z f g = bMirr M f g T := sorry
theorem ob_common {Z : CZ} {M : MZ} (hI : Inv Z M) (f g : Int) : aCommon Z f g = bCommon M f g := sorry
theorem ob_keep {Z : CZ} {M : MZ} (hI : Inv Z M) (s : Int) : aKeep Z s = bKeep M s ∧ Inv (zKeep Z s) (yKeep M s) := sorry
theorem ob_again {Z : CZ} {M : MZ} (hI : Inv Z M) (s : Int) : aAgain Z s = bAgain M s ∧ Inv (zAgain Z s) (yAgain M s) := sorry
theorem ob_count {Z : CZ} {M : MZ} (hI : Inv Z M) (k : Int) : aCount Z k = bCount M k := sorry
