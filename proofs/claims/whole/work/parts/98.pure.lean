theorem pure_law (xs : Nat → Int32) (L : Nat) (hL : L ≤ 256) : ∃ μ0 μ1, f_X11_begins 3 μI = some μ0 ∧ f_law xs L μ0 = some (1, μ1) := by
  sorry
