/-- the law's loop, over the small machine -/
theorem law_pure : ∀ X : sX, X.1 ≤ 256 → ∃ S', Run X 231 18 [some (.ref 999), some (.ref 0), some (.ref 43), some (.int 0)] [] S0 = some (some (.int 1), S') := by
  sorry
