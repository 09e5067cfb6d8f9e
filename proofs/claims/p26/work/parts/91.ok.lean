theorem law_ok (xs : Nat → Int32) (L : Nat) : s_L_law xs L T0 = some 1 := sorry
