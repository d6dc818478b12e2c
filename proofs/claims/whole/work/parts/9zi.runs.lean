/-! THE PURE SIDE: on the small machine the law returns 1 -/
theorem XOP {I : Nat → Nat → Int} {sp rt : Nat} {tt : Nat → Nat} {z : Zs} (hh : InvS I ∧ GN0 I ∧ GK I) (hx : GX I sp tt z.1) : XOPS GX I sp rt tt z := ⟨fun a b c e => o_text a b c e hh hx, fun a b => o_counts a b hh hx, fun a b c => o_holds a b c hh hx, fun a => o_broken a hh hx, fun a b c => o_brokenAt a b c hh hx, fun a => o_fine a hh hx, fun a => o_within a hh hx, fun a b => o_late a b hh hx, fun a => o_worth a hh hx, fun a b c => o_send a b c hh hx⟩
theorem law_runs (L : Nat) (xs : Nat → Int32) (hL : L ≤ 4096) : ∃ hh, Call PG 301 345 [(4, 0)] ((fun _ _ => 0, fun _ _ => 0, 0, L, fun j => (xs j).toInt) : Hp) = some (some (0, 1), hh) := by
  have s := START 297 (zz := (L, fun j => (xs j).toInt))
  obtain ⟨hq, e⟩ := LOOP GX_ok (fun hh hx => XOP hh hx) 512 IC1 13 0 (fun _ => 0) (163, L, fun j => (xs j).toInt) 163 35117 0 IS0 GX_0 (Int.le_refl 0) (by show (L : Int) ≤ 4096; omega) (by show (L : Int) < 0 + 8 * ((512 + 1 : Nat) : Int); omega) (by decide) (by decide)
  exact ⟨hq, s.trans e⟩

