/-! warn, both -/
theorem cl40_def (n : Nat) (J : Nat → Nat → Int) (a j : Nat) : cl40 n J a j = if a = 153 ∧ n ≤ j ∧ j < n + 40 then -1 else J a j := rfl
section WARNb
variable {I : Nat → Nat → Int} {sp rt : Nat} {tt : Nat → Nat} {z : Zs}
theorem o_warn (h : Int) (hh : InvS I) : OpR 163 318 [(0, h)] I sp rt tt z := by
  obtain ⟨hT, hP, hC, hW, hL, hI, hS⟩ := hh
  have w1 := hW.1
  have c1 := hC.1.1
  have t1 := hT.1
  have a91 := hC.2.1.1 h.toNat
  by_cases c : (0 ≤ h ∧ h < I 55 0) ∧ I 68 0 < 60
  · have e1 : (40 * I 82 15).toNat = 40 * (I 68 0).toNat := by omega
    have e2 : (40 * I 82 15 + h).toNat = 40 * (I 68 0).toNat + h.toNat := by omega
    have e3 : (I 68 0 * 40 + h).toNat = 40 * (I 68 0).toNat + h.toNat := by omega
    have e4 : (I 68 0 + 1).toNat = (I 68 0).toNat + 1 := by omega
    have e5 : h.toNat < 40 ∧ h.toNat < (I 55 0).toNat := by omega
    have e6 := hC.2.2.1 h.toNat e5.2
    refine ⟨I 68 0, _, _, (S_163 (by omega) (by omega)).trans (if_pos c), (S_318 (by show 0 ≤ I 82 4 ∧ I 82 4 ≤ 40; omega) (by show 0 ≤ I 82 15 ∧ I 82 15 ≤ 60; omega)).trans ((if_pos (by show (0 ≤ h ∧ h < I 82 4) ∧ I 82 15 < 60; omega)).trans (eqv (by show I 82 15 = I 68 0; omega))), ⟨hT, hP, hC, ?_, hL, hI, hS⟩, ?_⟩
    · unfold GW
      repeat' apply And.intro
      · first | exact hW.1.1 | (have q := hW.1.1; have q0 := hW.1; have q6 := hW.2.2.2.2.1; have q3 := hW.2.1; simp only [up2_def, cl40_def]; grind)
      · first | exact hW.1.2.1 | (have q := hW.1.2.1; have q0 := hW.1; have q6 := hW.2.2.2.2.1; have q3 := hW.2.1; simp only [up2_def, cl40_def]; grind)
      · first | exact hW.1.2.2 | (have q := hW.1.2.2; have q0 := hW.1; have q6 := hW.2.2.2.2.1; have q3 := hW.2.1; simp only [up2_def, cl40_def]; grind)
      · first | exact hW.2.1 | (have q := hW.2.1; have q0 := hW.1; have q6 := hW.2.2.2.2.1; have q3 := hW.2.1; simp only [up2_def, cl40_def]; grind)
      · first | exact hW.2.2.1 | (have q := hW.2.2.1; have q0 := hW.1; have q6 := hW.2.2.2.2.1; have q3 := hW.2.1; simp only [up2_def, cl40_def]; grind)
      · first | exact hW.2.2.2.1 | (have q := hW.2.2.2.1; have q0 := hW.1; have q6 := hW.2.2.2.2.1; have q3 := hW.2.1; simp only [up2_def, cl40_def]; grind)
      · first | exact hW.2.2.2.2.1 | (have q := hW.2.2.2.2.1; have q0 := hW.1; have q6 := hW.2.2.2.2.1; have q3 := hW.2.1; simp only [up2_def, cl40_def]; grind)
      · first | exact hW.2.2.2.2.2.1 | (have q := hW.2.2.2.2.2.1; have q0 := hW.1; have q6 := hW.2.2.2.2.1; have q3 := hW.2.1; simp only [up2_def, cl40_def]; grind)
      · first | exact hW.2.2.2.2.2.2 | (have q := hW.2.2.2.2.2.2; have q0 := hW.1; have q6 := hW.2.2.2.2.1; have q3 := hW.2.1; simp only [up2_def, cl40_def]; grind)
    · refine (rs_up (by rfl)).trans ?_
      refine (rs_up (by rfl)).trans ?_
      refine (rs_cl _ _).trans ?_
      repeat (first | rfl | refine (rs_up (by rfl)).trans ?_)
  · exact ⟨-1, I, I, (S_163 (by omega) (by omega)).trans (if_neg c), (S_318 (by omega) (by omega)).trans (if_neg (by omega)), ⟨hT, hP, hC, hW, hL, hI, hS⟩, rfl⟩
end WARNb

