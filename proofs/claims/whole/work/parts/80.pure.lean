theorem law_pure (L : Nat) (xs : Nat → Int32) (hL : L ≤ 4096) : L_L_law_18 L xs 0 43 FU (fun _ => some 1) hStart 0 = some 1 := by
  sorry
