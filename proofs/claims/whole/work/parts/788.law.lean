theorem law_pure (L : Nat) (xs : Nat → Int32) (hL : L ≤ 3072) : ∃ K Z : Nat, f_Lw 1000000 L xs = some (1, K, Z) ∧ K ≤ 601024 ∧ Z ≤ 7293034 := by
  sorry
