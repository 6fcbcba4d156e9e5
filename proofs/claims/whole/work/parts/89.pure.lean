theorem law_pure (L : Nat) (hL : L ≤ 3072) (xs : Nat → Int32) : ∃ w' : zWd, mL_law_18 L xs 290 0 231 0 zW0 = some (1, w') := by
  sorry
