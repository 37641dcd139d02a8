/-- THE PURE TARGET: our run of the law's bytecode ends with 1, within the room -/
theorem law_runs (b L lo : Nat) (xs : Nat → Int32) (hL : L ≤ 3584) (hb : b < lo) : ∃ h' : AH, run 10 mt_169 0 (entL 4 [.ref b]) [] (h00 b L lo xs) = some (some (.int 1), h') ∧ h'.2.1 ≤ lo + 600000 ∧ h'.2.2 ≤ 7302250 := by
  sorry
