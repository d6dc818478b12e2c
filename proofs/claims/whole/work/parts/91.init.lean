/-! what holds at the start -/
theorem IS1 : GT IC1 ∧ GP IC1 ∧ GC IC1 := by
  refine ⟨?_, ?_, ?_⟩
  · unfold GT
    repeat' apply And.intro
    all_goals first | rfl | decide | exact fun j => rfl
  · unfold GP
    repeat' apply And.intro
    all_goals first | rfl | decide | exact fun j => rfl | exact fun j => ⟨Int.le_refl 0, show (0 : Int) ≤ _ by decide⟩
  · unfold GC
    repeat' apply And.intro
    all_goals first | rfl | decide | exact fun j => rfl | exact fun j => Or.inl rfl | exact fun j h => absurd h (Nat.not_lt_zero j) | exact fun j _ => rfl

