/-! what holds at the start -/
theorem IS1 : GT IC1 ∧ GP IC1 ∧ GC IC1 := by
  refine ⟨?_, ?_, ?_⟩
  · unfold GT
    repeat' apply And.intro
    all_goals first | rfl | decide | exact fun j => rfl | exact fun j => ⟨show (-128 : Int) ≤ 0 by decide, show (0 : Int) ≤ 127 by decide⟩
  · unfold GP
    repeat' apply And.intro
    all_goals first | rfl | decide | exact fun j => rfl | exact fun j => ⟨Int.le_refl 0, show (0 : Int) ≤ _ by decide⟩
  · unfold GC
    repeat' apply And.intro
    all_goals first | rfl | decide | exact fun j => rfl | exact fun j => Or.inl rfl | exact fun j h => absurd h (Nat.not_lt_zero j) | exact fun j _ => rfl
theorem IS2 : GL IC1 ∧ GI IC1 ∧ GS IC1 := by
  refine ⟨?_, ?_, ?_⟩
  · unfold GL
    repeat' apply And.intro
    all_goals first | rfl | decide | exact fun j => rfl | exact fun j h => absurd h (Nat.not_lt_zero j) | exact fun p _ h => (show fl (fun _ => 0) 12 (-1) p = -1 from fl_in h)
  · unfold GI
    repeat' apply And.intro
    all_goals first | rfl | decide | exact fun j => rfl | exact fun j h => absurd h (Nat.not_lt_zero j)
  · unfold GS
    repeat' apply And.intro
    all_goals first | rfl | decide | exact fun j => rfl | exact fun j h => absurd h (Nat.not_lt_zero j) | exact fun j => ⟨⟨Int.le_refl 0, show (0 : Int) ≤ 1000 by decide⟩, ⟨Int.le_refl 0, show (0 : Int) ≤ 3 by decide⟩, ⟨show (-100000 : Int) ≤ 0 by decide, show (0 : Int) ≤ 100000 by decide⟩, ⟨show (-100000 : Int) ≤ 0 by decide, show (0 : Int) ≤ 100000 by decide⟩, ⟨show (-100000 : Int) ≤ 0 by decide, show (0 : Int) ≤ 100000 by decide⟩, ⟨show (-100000 : Int) ≤ 0 by decide, show (0 : Int) ≤ 100000 by decide⟩, ⟨Int.le_refl 0, show (0 : Int) ≤ 1000 by decide⟩⟩
theorem IS3 : GK IC1 := by
  unfold GK
  exact ⟨fun p h => Or.inl (show fl (fun _ => 0) 12 (-2) p = -2 from fl_in h), fun p h => Or.inl (show fl (fun _ => 0) 12 (-2) p = -2 from fl_in h)⟩
theorem IS4 : GN0 IC1 := by
  unfold GN0
  refine ⟨?_, ?_, ?_, ?_, ?_, ?_, ?_, ?_, ?_⟩
  · repeat' apply And.intro
    all_goals first | rfl | decide
  · exact ⟨fun j => rfl, fun j => rfl⟩
  · exact fun p h => absurd h (Nat.not_lt_zero p)
  · exact fun p _ h => ⟨(show fl (fun _ => 0) 12 (-1) p = -1 from fl_in h), (show fl (fun _ => 0) 12 (-1) p = -1 from fl_in h)⟩
  · exact fun p h => absurd h (Nat.not_lt_zero p)
  · exact ⟨⟨fun r h => absurd h (Nat.not_lt_zero r), by decide, by decide⟩, fun r h => absurd h (Nat.not_lt_zero r), fun r h => absurd h (Nat.not_lt_zero r), fun a r h => absurd h (Nat.not_lt_zero a)⟩
  · repeat' apply And.intro
    all_goals first | rfl | decide | exact fun r h => absurd h (Nat.not_lt_zero r)
  · exact fun p h => absurd h (Nat.not_lt_zero p)
  · exact fun p h => absurd h (Nat.not_lt_zero p)
theorem IS5 : GW IC1 := by
  unfold GW
  refine ⟨?_, fun j => rfl, fun w h => absurd h (Nat.not_lt_zero w), fun w h hw => absurd hw (Nat.not_lt_zero w), fun j _ h => (show fl (fun _ => 0) 2400 (-1) j = -1 from fl_in h), fun w h hw => absurd hw (Nat.not_lt_zero w), fun w h _ _ => ⟨?_, Or.inl rfl⟩⟩
  · repeat' apply And.intro
    all_goals first | rfl | decide
  · have e : ia64 (shr64 (IC1 71 w) h) 1 = 0 := by
      show ia64 (0 / 2 ^ ((h : Int) % 64).toNat) 1 = 0
      rw [Int.zero_ediv]
      rfl
    exact ⟨fun _ => rfl, fun _ => e⟩
theorem IS0 : InvS IC1 ∧ GN0 IC1 ∧ GK IC1 := ⟨⟨IS1.1, IS1.2.1, IS1.2.2, IS5, IS2.1, IS2.2.1, IS2.2.2⟩, IS4, IS3⟩

