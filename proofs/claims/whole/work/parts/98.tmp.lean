theorem law_go {L : Nat} (hL : L ≤ 320) (xs : Nat → Int32) : LawGo L xs := sorry
