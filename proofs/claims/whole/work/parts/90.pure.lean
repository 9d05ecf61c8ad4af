theorem pure_law (L : Nat) (xs : Nat → Int32) (hL : L ≤ 2560) (f g : Nat → Int32) (hf : ∀ j : Nat, j < 201 → f j = 1) (hg : ∀ j : Nat, j < 201 → g j = 1) : ∃ n : Nat, x_Law_18 L xs n (iX f, iM g) 0 := by
  sorry
