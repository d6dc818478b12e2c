/-- THE PURE SIDE: on the small machine the law returns 1 -/
theorem law_runs (L : Nat) (xs : Nat → Int32) (hL : L ≤ 4096) : ∃ hh, Call PG 301 345 [(4, 0)] ((fun _ _ => 0, fun _ _ => 0, 0, L, fun j => (xs j).toInt) : Hp) = some (some (0, 1), hh) := sorry
