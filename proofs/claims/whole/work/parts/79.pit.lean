/-! a pit -/
section PT
variable {I : Nat → Nat → Int} {sp rt : Nat} {tt : Nat → Nat} {z : Zs}
def PTh (I : Nat → Nat → Int) (n : Nat) (s e g m : Int) : Nat → Nat → Int := up2 (up2 (up2 (up2 (up2 (up2 (up2 (up2 (up2 (up2 (up2 (up2 (up2 I 3 n s) 4 n e) 5 n g) 6 n m) 2 6 ((n : Int) + 1)) 84 n s) 85 n e) 86 n g) 87 n m) 90 n (-1)) 115 n (-1)) 116 n (-1)) 82 3 ((n : Int) + 1)
theorem PTh_o {n : Nat} {s e g m : Int} {c j : Nat} (h1 : ¬ (3 ≤ c ∧ c ≤ 6)) (h2 : ¬ (c = 2 ∧ j = 6)) (h3 : ¬ (84 ≤ c ∧ c ≤ 87)) (h4 : ¬ c = 90) (h5 : ¬ c = 115) (h6 : ¬ c = 116) (h7 : ¬ (c = 82 ∧ j = 3)) : PTh I n s e g m c j = I c j := by
  unfold PTh
  rw [up2_def, if_neg h7, up2_ne h6, up2_ne h5, up2_ne h4, up2_ne (by omega), up2_ne (by omega), up2_ne (by omega), up2_ne (by omega), up2_def, if_neg h2, up2_ne (by omega), up2_ne (by omega), up2_ne (by omega), up2_ne (by omega)]
theorem o_pit (s e g m : Int) (hh : InvS I) (hn : GN0 I) (hk : GK I) : OpN 14 210 [(0, s), (0, e), (0, g), (0, m)] I sp rt tt z := by
  have p1 := hh.2.1.1
  have hn0 := hn
  by_cases c : I 2 6 < 12 ∧ (0 ≤ s ∧ s ≤ 7) ∧ (0 ≤ e ∧ e ≤ 2000) ∧ (0 ≤ g ∧ g ≤ 100) ∧ 0 ≤ m ∧ m ≤ 2000
  · obtain ⟨n, hN⟩ := Int.eq_ofNat_of_zero_le p1.2.1
    have h3 : I 82 3 = n := by omega
    have hn12 : n < 12 := by omega
    have s14 := (S_14 (d := 297) (I := I) (sp := sp) (rt := rt) (tt := tt) (z := z) (s := s) (e := e) (g := g) (m := m) (by omega)).trans (if_pos c)
    rw [hN, Int.toNat_natCast] at s14
    have s210 := (S_210 (d := 298) (I := up2 (up2 (up2 (up2 (up2 I 3 n s) 4 n e) 5 n g) 6 n m) 2 6 ((n : Int) + 1)) (sp := sp) (rt := rt) (tt := tt) (z := z) (s := s) (e := e) (g := g) (m := m) (by show 0 ≤ I 82 3 ∧ I 82 3 ≤ 12; omega)).trans (if_pos (by show I 82 3 < 12 ∧ _; exact ⟨by omega, c.2⟩))
    rw [show up2 (up2 (up2 (up2 (up2 I 3 n s) 4 n e) 5 n g) 6 n m) 2 6 ((n : Int) + 1) 82 3 = (n : Int) from h3, Int.toNat_natCast] at s210
    have hF : ∀ q, ¬ (3 ≤ q ∧ q ≤ 6) → ¬ q = 2 → ¬ (84 ≤ q ∧ q ≤ 87) → ¬ q = 90 → ¬ q = 115 → ¬ q = 116 → ¬ q = 82 → PTh I n s e g m q = I q := fun q h1 h2 h3 h4 h5 h6 h7 => funext fun j => PTh_o h1 (fun w => h2 w.1) h3 h4 h5 h6 (fun w => h7 w.1)
    have e26 : PTh I n s e g m 2 6 = (n : Int) + 1 := rfl
    refine ⟨(n : Int), _, PTh I n s e g m, s14, s210, ?_, ⟨?_, ?_⟩, mkI_eq (fun a j hm => ?_)⟩
    · obtain ⟨hT, hP, hC, hW, hL, hI, hS⟩ := hh
      refine ⟨hT, ?_, ?_, ?_, ?_, hI, ?_⟩
      · unfold PTh
        unfold GP
        repeat' apply And.intro
        · first | exact hP.1.1 | (have q := hP.1.1; have q0 := hP.1; have q1 := hP.2.1; simp only [up2_def]; grind)
        · first | exact hP.1.2.1 | (have q := hP.1.2.1; have q0 := hP.1; have q1 := hP.2.1; simp only [up2_def]; grind)
        · first | exact hP.1.2.2 | (have q := hP.1.2.2; have q0 := hP.1; have q1 := hP.2.1; simp only [up2_def]; grind)
        · first | exact hP.2.1.1 | (have q := hP.2.1.1; have q0 := hP.1; have q1 := hP.2.1; simp only [up2_def]; grind)
        · first | exact hP.2.1.2.1 | (have q := hP.2.1.2.1; have q0 := hP.1; have q1 := hP.2.1; simp only [up2_def]; grind)
        · first | exact hP.2.1.2.2 | (have q := hP.2.1.2.2; have q0 := hP.1; have q1 := hP.2.1; simp only [up2_def]; grind)
        · first | exact hP.2.2.1.1 | (have q := hP.2.2.1.1; have q0 := hP.1; have q1 := hP.2.1; simp only [up2_def]; grind)
        · first | exact hP.2.2.1.2.1 | (have q := hP.2.2.1.2.1; have q0 := hP.1; have q1 := hP.2.1; simp only [up2_def]; grind)
        · first | exact hP.2.2.1.2.2.1 | (have q := hP.2.2.1.2.2.1; have q0 := hP.1; have q1 := hP.2.1; simp only [up2_def]; grind)
        · first | exact hP.2.2.1.2.2.2.1 | (have q := hP.2.2.1.2.2.2.1; have q0 := hP.1; have q1 := hP.2.1; simp only [up2_def]; grind)
        · first | exact hP.2.2.1.2.2.2.2.1 | (have q := hP.2.2.1.2.2.2.2.1; have q0 := hP.1; have q1 := hP.2.1; simp only [up2_def]; grind)
        · first | exact hP.2.2.1.2.2.2.2.2 | (have q := hP.2.2.1.2.2.2.2.2; have q0 := hP.1; have q1 := hP.2.1; simp only [up2_def]; grind)
        · first | exact hP.2.2.2.1 | (have q := hP.2.2.2.1; have q0 := hP.1; have q1 := hP.2.1; simp only [up2_def]; grind)
        · first | exact hP.2.2.2.2.1 | (have q := hP.2.2.2.2.1; have q0 := hP.1; have q1 := hP.2.1; simp only [up2_def]; grind)
        · first | exact hP.2.2.2.2.2.1 | (have q := hP.2.2.2.2.2.1; have q0 := hP.1; have q1 := hP.2.1; simp only [up2_def]; grind)
        · first | exact hP.2.2.2.2.2.2.1 | (have q := hP.2.2.2.2.2.2.1; have q0 := hP.1; have q1 := hP.2.1; simp only [up2_def]; grind)
        · first | exact hP.2.2.2.2.2.2.2.1 | (have q := hP.2.2.2.2.2.2.2.1; have q0 := hP.1; have q1 := hP.2.1; simp only [up2_def]; grind)
        · first | exact hP.2.2.2.2.2.2.2.2 | (have q := hP.2.2.2.2.2.2.2.2; have q0 := hP.1; have q1 := hP.2.1; simp only [up2_def]; grind)
      · unfold PTh
        unfold GC
        repeat' apply And.intro
        · first | exact hC.1.1.1 | (have q := hC.1.1.1; have q0 := hC.1; have q1 := hP.1; simp only [up2_def]; grind)
        · first | exact hC.1.1.2.1 | (have q := hC.1.1.2.1; have q0 := hC.1; have q1 := hP.1; simp only [up2_def]; grind)
        · first | exact hC.1.1.2.2 | (have q := hC.1.1.2.2; have q0 := hC.1; have q1 := hP.1; simp only [up2_def]; grind)
        · first | exact hC.1.2.1.1 | (have q := hC.1.2.1.1; have q0 := hC.1; have q1 := hP.1; simp only [up2_def]; grind)
        · first | exact hC.1.2.1.2.1 | (have q := hC.1.2.1.2.1; have q0 := hC.1; have q1 := hP.1; simp only [up2_def]; grind)
        · first | exact hC.1.2.1.2.2 | (have q := hC.1.2.1.2.2; have q0 := hC.1; have q1 := hP.1; simp only [up2_def]; grind)
        · first | exact hC.1.2.2.1.1 | (have q := hC.1.2.2.1.1; have q0 := hC.1; have q1 := hP.1; simp only [up2_def]; grind)
        · first | exact hC.1.2.2.1.2.1 | (have q := hC.1.2.2.1.2.1; have q0 := hC.1; have q1 := hP.1; simp only [up2_def]; grind)
        · first | exact hC.1.2.2.1.2.2 | (have q := hC.1.2.2.1.2.2; have q0 := hC.1; have q1 := hP.1; simp only [up2_def]; grind)
        · first | exact hC.1.2.2.2.1 | (have q := hC.1.2.2.2.1; have q0 := hC.1; have q1 := hP.1; simp only [up2_def]; grind)
        · first | exact hC.1.2.2.2.2.1 | (have q := hC.1.2.2.2.2.1; have q0 := hC.1; have q1 := hP.1; simp only [up2_def]; grind)
        · first | exact hC.1.2.2.2.2.2 | (have q := hC.1.2.2.2.2.2; have q0 := hC.1; have q1 := hP.1; simp only [up2_def]; grind)
        · first | exact hC.2.1.1 | (have q := hC.2.1.1; have q0 := hC.1; have q1 := hP.1; simp only [up2_def]; grind)
        · first | exact hC.2.1.2.1 | (have q := hC.2.1.2.1; have q0 := hC.1; have q1 := hP.1; simp only [up2_def]; grind)
        · first | exact hC.2.1.2.2.1 | (have q := hC.2.1.2.2.1; have q0 := hC.1; have q1 := hP.1; simp only [up2_def]; grind)
        · first | exact hC.2.1.2.2.2.1 | (have q := hC.2.1.2.2.2.1; have q0 := hC.1; have q1 := hP.1; simp only [up2_def]; grind)
        · first | exact hC.2.1.2.2.2.2.1 | (have q := hC.2.1.2.2.2.2.1; have q0 := hC.1; have q1 := hP.1; simp only [up2_def]; grind)
        · first | exact hC.2.1.2.2.2.2.2.1 | (have q := hC.2.1.2.2.2.2.2.1; have q0 := hC.1; have q1 := hP.1; simp only [up2_def]; grind)
        · first | exact hC.2.1.2.2.2.2.2.2.1 | (have q := hC.2.1.2.2.2.2.2.2.1; have q0 := hC.1; have q1 := hP.1; simp only [up2_def]; grind)
        · first | exact hC.2.1.2.2.2.2.2.2.2.1 | (have q := hC.2.1.2.2.2.2.2.2.2.1; have q0 := hC.1; have q1 := hP.1; simp only [up2_def]; grind)
        · first | exact hC.2.1.2.2.2.2.2.2.2.2 | (have q := hC.2.1.2.2.2.2.2.2.2.2; have q0 := hC.1; have q1 := hP.1; simp only [up2_def]; grind)
        · first | exact hC.2.2.1 | (have q := hC.2.2.1; have q0 := hC.1; have q1 := hP.1; simp only [up2_def]; grind)
        · first | exact hC.2.2.2.1 | (have q := hC.2.2.2.1; have q0 := hC.1; have q1 := hP.1; simp only [up2_def]; grind)
        · first | exact hC.2.2.2.2.1 | (have q := hC.2.2.2.2.1; have q0 := hC.1; have q1 := hP.1; simp only [up2_def]; grind)
        · first | exact hC.2.2.2.2.2.1 | (have q := hC.2.2.2.2.2.1; have q0 := hC.1; have q1 := hP.1; simp only [up2_def]; grind)
        · first | exact hC.2.2.2.2.2.2.1 | (have q := hC.2.2.2.2.2.2.1; have q0 := hC.1; have q1 := hP.1; simp only [up2_def]; grind)
        · first | exact hC.2.2.2.2.2.2.2.1 | (have q := hC.2.2.2.2.2.2.2.1; have q0 := hC.1; have q1 := hP.1; simp only [up2_def]; grind)
        · first | exact hC.2.2.2.2.2.2.2.2 | (have q := hC.2.2.2.2.2.2.2.2; have q0 := hC.1; have q1 := hP.1; simp only [up2_def]; grind)
      · unfold PTh
        unfold GW
        repeat' apply And.intro
        · first | exact hW.1.1 | (have q := hW.1.1; have q0 := hW.1; have q1 := hP.1; simp only [up2_def]; grind)
        · first | exact hW.1.2.1 | (have q := hW.1.2.1; have q0 := hW.1; have q1 := hP.1; simp only [up2_def]; grind)
        · first | exact hW.1.2.2 | (have q := hW.1.2.2; have q0 := hW.1; have q1 := hP.1; simp only [up2_def]; grind)
        · first | exact hW.2.1 | (have q := hW.2.1; have q0 := hW.1; have q1 := hP.1; simp only [up2_def]; grind)
        · first | exact hW.2.2.1 | (have q := hW.2.2.1; have q0 := hW.1; have q1 := hP.1; simp only [up2_def]; grind)
        · first | exact hW.2.2.2.1 | (have q := hW.2.2.2.1; have q0 := hW.1; have q1 := hP.1; simp only [up2_def]; grind)
        · first | exact hW.2.2.2.2.1 | (have q := hW.2.2.2.2.1; have q0 := hW.1; have q1 := hP.1; simp only [up2_def]; grind)
        · first | exact hW.2.2.2.2.2.1 | (have q := hW.2.2.2.2.2.1; have q0 := hW.1; have q1 := hP.1; simp only [up2_def]; grind)
        · first | exact hW.2.2.2.2.2.2 | (have q := hW.2.2.2.2.2.2; have q0 := hW.1; have q1 := hP.1; simp only [up2_def]; grind)
      · unfold PTh
        unfold GL
        repeat' apply And.intro
        · first | exact hL.1.1 | (have q := hL.1.1; have q0 := hL.1; have q1 := hP.1; have q2 := hL.2.2.2.2; simp only [up2_def]; grind)
        · first | exact hL.1.2.1 | (have q := hL.1.2.1; have q0 := hL.1; have q1 := hP.1; have q2 := hL.2.2.2.2; simp only [up2_def]; grind)
        · first | exact hL.1.2.2 | (have q := hL.1.2.2; have q0 := hL.1; have q1 := hP.1; have q2 := hL.2.2.2.2; simp only [up2_def]; grind)
        · first | exact hL.2.1.1 | (have q := hL.2.1.1; have q0 := hL.1; have q1 := hP.1; have q2 := hL.2.2.2.2; simp only [up2_def]; grind)
        · first | exact hL.2.1.2.1 | (have q := hL.2.1.2.1; have q0 := hL.1; have q1 := hP.1; have q2 := hL.2.2.2.2; simp only [up2_def]; grind)
        · first | exact hL.2.1.2.2 | (have q := hL.2.1.2.2; have q0 := hL.1; have q1 := hP.1; have q2 := hL.2.2.2.2; simp only [up2_def]; grind)
        · first | exact hL.2.2.1 | (have q := hL.2.2.1; have q0 := hL.1; have q1 := hP.1; have q2 := hL.2.2.2.2; simp only [up2_def]; grind)
        · first | exact hL.2.2.2.1 | (have q := hL.2.2.2.1; have q0 := hL.1; have q1 := hP.1; have q2 := hL.2.2.2.2; simp only [up2_def]; grind)
        · first | exact hL.2.2.2.2 | (have q := hL.2.2.2.2; have q0 := hL.1; have q1 := hP.1; have q2 := hL.2.2.2.2; simp only [up2_def]; grind)
      · unfold PTh
        unfold GS
        repeat' apply And.intro
        · first | exact hS.1.1.1 | (have q := hS.1.1.1; have q0 := hS.1; have q1 := hP.1; simp only [up2_def]; grind)
        · first | exact hS.1.1.2.1 | (have q := hS.1.1.2.1; have q0 := hS.1; have q1 := hP.1; simp only [up2_def]; grind)
        · first | exact hS.1.1.2.2 | (have q := hS.1.1.2.2; have q0 := hS.1; have q1 := hP.1; simp only [up2_def]; grind)
        · first | exact hS.1.2.1.1 | (have q := hS.1.2.1.1; have q0 := hS.1; have q1 := hP.1; simp only [up2_def]; grind)
        · first | exact hS.1.2.1.2.1 | (have q := hS.1.2.1.2.1; have q0 := hS.1; have q1 := hP.1; simp only [up2_def]; grind)
        · first | exact hS.1.2.1.2.2 | (have q := hS.1.2.1.2.2; have q0 := hS.1; have q1 := hP.1; simp only [up2_def]; grind)
        · first | exact hS.1.2.2.1.1 | (have q := hS.1.2.2.1.1; have q0 := hS.1; have q1 := hP.1; simp only [up2_def]; grind)
        · first | exact hS.1.2.2.1.2.1 | (have q := hS.1.2.2.1.2.1; have q0 := hS.1; have q1 := hP.1; simp only [up2_def]; grind)
        · first | exact hS.1.2.2.1.2.2 | (have q := hS.1.2.2.1.2.2; have q0 := hS.1; have q1 := hP.1; simp only [up2_def]; grind)
        · first | exact hS.1.2.2.2.1 | (have q := hS.1.2.2.2.1; have q0 := hS.1; have q1 := hP.1; simp only [up2_def]; grind)
        · first | exact hS.1.2.2.2.2.1 | (have q := hS.1.2.2.2.2.1; have q0 := hS.1; have q1 := hP.1; simp only [up2_def]; grind)
        · first | exact hS.1.2.2.2.2.2 | (have q := hS.1.2.2.2.2.2; have q0 := hS.1; have q1 := hP.1; simp only [up2_def]; grind)
        · first | exact hS.2.1.1 | (have q := hS.2.1.1; have q0 := hS.1; have q1 := hP.1; simp only [up2_def]; grind)
        · first | exact hS.2.1.2.1 | (have q := hS.2.1.2.1; have q0 := hS.1; have q1 := hP.1; simp only [up2_def]; grind)
        · first | exact hS.2.1.2.2.1 | (have q := hS.2.1.2.2.1; have q0 := hS.1; have q1 := hP.1; simp only [up2_def]; grind)
        · first | exact hS.2.1.2.2.2.1 | (have q := hS.2.1.2.2.2.1; have q0 := hS.1; have q1 := hP.1; simp only [up2_def]; grind)
        · first | exact hS.2.1.2.2.2.2.1 | (have q := hS.2.1.2.2.2.2.1; have q0 := hS.1; have q1 := hP.1; simp only [up2_def]; grind)
        · first | exact hS.2.1.2.2.2.2.2 | (have q := hS.2.1.2.2.2.2.2; have q0 := hS.1; have q1 := hP.1; simp only [up2_def]; grind)
        · first | exact hS.2.2.1 | (have q := hS.2.2.1; have q0 := hS.1; have q1 := hP.1; simp only [up2_def]; grind)
        · first | exact hS.2.2.2.1 | (have q := hS.2.2.2.1; have q0 := hS.1; have q1 := hP.1; simp only [up2_def]; grind)
        · first | exact hS.2.2.2.2.1 | (have q := hS.2.2.2.2.1; have q0 := hS.1; have q1 := hP.1; simp only [up2_def]; grind)
        · first | exact hS.2.2.2.2.2 | (have q := hS.2.2.2.2.2; have q0 := hS.1; have q1 := hP.1; simp only [up2_def]; grind)
    · obtain ⟨⟨g1, g2⟩, g3, g4, g5, g6, g7, g8, g9, g10⟩ := hn
      have f115 : ∀ j, PTh I n s e g m 115 j = if j = n then -1 else I 115 j := fun j => by
        unfold PTh
        rw [up2_ne (by decide), up2_ne (by decide), up2_at, up2_ne (by decide), up2_ne (by decide), up2_ne (by decide), up2_ne (by decide), up2_ne (by decide), up2_ne (by decide), up2_ne (by decide), up2_ne (by decide), up2_ne (by decide), up2_ne (by decide)]
      have f116 : ∀ j, PTh I n s e g m 116 j = if j = n then -1 else I 116 j := fun j => by
        unfold PTh
        rw [up2_ne (by decide), up2_at, up2_ne (by decide), up2_ne (by decide), up2_ne (by decide), up2_ne (by decide), up2_ne (by decide), up2_ne (by decide), up2_ne (by decide), up2_ne (by decide), up2_ne (by decide), up2_ne (by decide), up2_ne (by decide)]
      have h5 := g5 n (by omega) hn12
      refine ⟨⟨g1, g2⟩, g3, ?_, ?_, ?_, g7, ⟨g8.1, g8.2.1, ?_⟩, g9, ?_⟩
      · intro p hp
        rw [f115, f116]
        show (if p = n then -1 else I 115 p) = I 34 p ∧ (if p = n then -1 else I 116 p) = I 39 p ∧ (¬ I 39 p = -1 → I 117 p = I 40 p ∧ I 118 p = I 41 p)
        have hp : p < ((n : Int) + 1).toNat := hp
        by_cases w : p = n
        · subst w
          rw [if_pos rfl, if_pos rfl, h5.1, h5.2]
          exact ⟨rfl, rfl, fun q => absurd rfl q⟩
        · rw [if_neg w, if_neg w]
          exact g4 p (by omega)
      · intro p hp1 hp2
        have hp1 : ((n : Int) + 1).toNat ≤ p := hp1
        exact g5 p (by omega) hp2
      · intro x hx
        have h6 := g6 x hx
        show (0 ≤ I 33 x ∧ I 33 x < (n : Int) + 1) ∧ _
        exact ⟨by omega, h6.2⟩
      · intro p hp
        show I 34 p = -1 ∨ (0 ≤ I 34 p ∧ I 34 p < I 25 0)
        have hp : p < ((n : Int) + 1).toNat := hp
        by_cases w : p = n
        · subst w; exact Or.inl h5.1
        · exact g8.2.2 p (by omega)
      · intro p hp
        have hp : p < ((n : Int) + 1).toNat := hp
        by_cases w : p = n
        · subst w
          left
          show I 39 _ = -1
          rw [Int.toNat_natCast]; exact h5.2
        · exact g10 p (by omega)
    · exact hk
    · have := of_decide_eq_true hm
      exact PTh_o (by omega) (by omega) (by omega) (by omega) (by omega) (by omega) (by omega)
  · exact ⟨-1, I, I, (S_14 (by omega)).trans (if_neg c), (S_210 (by omega)).trans (if_neg (by omega)), hh, ⟨hn0, hk⟩, rfl⟩
end PT

