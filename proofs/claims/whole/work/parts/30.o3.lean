/-! calls that change pits, plans, hands, shots -/
theorem sm_congr {f g : Nat → Int} : ∀ {n : Nat}, (∀ i, i < n → f i = g i) → sm f n = sm g n
  | 0, _ => rfl
  | n + 1, h => by
    unfold sm
    rw [sm_congr (fun i hi => h i (Nat.lt_succ_of_lt hi)), h n (Nat.lt_succ_self n)]
theorem sm_set {f g : Nat → Int} {k : Nat} : ∀ {n : Nat}, k < n → (∀ i, i < n → i ≠ k → g i = f i) → sm g n = sm f n - f k + g k
  | 0, h, _ => absurd h (Nat.not_lt_zero _)
  | n + 1, h, e => by
    unfold sm
    by_cases q : k = n
    · subst q
      rw [sm_congr (f := g) (g := f) (fun i hi => e i (Nat.lt_succ_of_lt hi) (Nat.ne_of_lt hi))]
      omega
    · rw [sm_set (by omega) (fun i hi hn => e i (Nat.lt_succ_of_lt hi) hn), e n (Nat.lt_succ_self n) (fun z => q z.symm)]
      omega
theorem sm_nn {f : Nat → Int} : ∀ {n : Nat}, (∀ i, i < n → 0 ≤ f i ∧ f i ≤ 1) → 0 ≤ sm f n ∧ sm f n ≤ n
  | 0, _ => ⟨Int.le_refl _, Int.le_refl _⟩
  | n + 1, h => by
    have h1 := sm_nn (f := f) (n := n) (fun i hi => h i (Nat.lt_succ_of_lt hi))
    have h2 := h n (Nat.lt_succ_self n)
    unfold sm
    omega
theorem bz_b (p : Prop) [Decidable p] : 0 ≤ bz p ∧ bz p ≤ 1 := by unfold bz; split <;> omega
section O3
variable {I : Nat → Nat → Int} {sp rt : Nat} {tt : Nat → Nat} {z : Zs}
theorem be_in (h : InvS I) (p : Nat) (hp : p < 12) : 0 ≤ I 64 p ∧ I 64 p ≤ 40 := by
  have c := h.2.2.1
  have c1 := c.1.1
  rw [c.2.2.2.2.2.1 p hp]
  have := sm_nn (f := fun h => bz (I 56 h = p ∧ ¬ I 58 h = -1)) (n := (I 55 0).toNat) (fun i _ => bz_b _)
  omega
theorem la_in (h : InvS I) (p : Nat) (hp : p < 12) : 0 ≤ I 65 p ∧ I 65 p ≤ 40 := by
  have c := h.2.2.1
  have c1 := c.1.1
  rw [c.2.2.2.2.2.2.1 p hp]
  have := sm_nn (f := fun h => bz (I 56 h = p ∧ ¬ I 58 h = -1 ∧ ¬ I 62 (I 58 h).toNat = -1)) (n := (I 55 0).toNat) (fun i _ => bz_b _)
  omega
theorem o_fall (p : Int) (hh : InvS I) : OpR 177 325 [(0, p)] I sp rt tt z := by
  obtain ⟨hT, hP, hC, hW, hL, hI, hS⟩ := hh
  have p1 := hP.1
  have p2 := hP.2.1
  have p3 := hP.2.2.2.2.2.2.2.2 p.toNat
  have p4 := hP.2.2.1.2.2.2.2.2 p.toNat
  by_cases c0 : (0 ≤ p ∧ p < I 2 6) ∧ I 2 7 < 200
  · refine ⟨1, _, _, (S_177 (by show 0 ≤ I 2 6 ∧ I 2 6 ≤ 12; first | omega | assumption) (by show 0 ≤ I 2 7 ∧ I 2 7 ≤ 200; first | omega | assumption) (by show 0 ≤ I 8 p.toNat ∧ I 8 p.toNat ≤ 200; first | omega | assumption)).trans (if_pos c0), (S_325 (by show 0 ≤ I 82 3 ∧ I 82 3 ≤ 12; first | omega | assumption) (by show 0 ≤ I 82 16 ∧ I 82 16 ≤ 200; first | omega | assumption) (by show 0 ≤ I 89 p.toNat ∧ I 89 p.toNat ≤ 200; first | omega | assumption)).trans ((if_pos (by show (0 ≤ p ∧ p < I 82 3) ∧ I 82 16 < 200; omega)).trans (eqv (by show 1 = 1; omega))), ⟨hT, ?_, hC, hW, hL, hI, hS⟩, ?_⟩
    · unfold GP
      repeat' apply And.intro
      · first | exact hP.1.1 | (have q := hP.1.1; have q0 := hP.1; have q1 := hP.2.1; have q2 := hP.2.2.1.2.2.2.2.2; simp only [up2_def]; grind)
      · first | exact hP.1.2.1 | (have q := hP.1.2.1; have q0 := hP.1; have q1 := hP.2.1; have q2 := hP.2.2.1.2.2.2.2.2; simp only [up2_def]; grind)
      · first | exact hP.1.2.2 | (have q := hP.1.2.2; have q0 := hP.1; have q1 := hP.2.1; have q2 := hP.2.2.1.2.2.2.2.2; simp only [up2_def]; grind)
      · first | exact hP.2.1.1 | (have q := hP.2.1.1; have q0 := hP.1; have q1 := hP.2.1; have q2 := hP.2.2.1.2.2.2.2.2; simp only [up2_def]; grind)
      · first | exact hP.2.1.2.1 | (have q := hP.2.1.2.1; have q0 := hP.1; have q1 := hP.2.1; have q2 := hP.2.2.1.2.2.2.2.2; simp only [up2_def]; grind)
      · first | exact hP.2.1.2.2 | (have q := hP.2.1.2.2; have q0 := hP.1; have q1 := hP.2.1; have q2 := hP.2.2.1.2.2.2.2.2; simp only [up2_def]; grind)
      · first | exact hP.2.2.1.1 | (have q := hP.2.2.1.1; have q0 := hP.1; have q1 := hP.2.1; have q2 := hP.2.2.1.2.2.2.2.2; simp only [up2_def]; grind)
      · first | exact hP.2.2.1.2.1 | (have q := hP.2.2.1.2.1; have q0 := hP.1; have q1 := hP.2.1; have q2 := hP.2.2.1.2.2.2.2.2; simp only [up2_def]; grind)
      · first | exact hP.2.2.1.2.2.1 | (have q := hP.2.2.1.2.2.1; have q0 := hP.1; have q1 := hP.2.1; have q2 := hP.2.2.1.2.2.2.2.2; simp only [up2_def]; grind)
      · first | exact hP.2.2.1.2.2.2.1 | (have q := hP.2.2.1.2.2.2.1; have q0 := hP.1; have q1 := hP.2.1; have q2 := hP.2.2.1.2.2.2.2.2; simp only [up2_def]; grind)
      · first | exact hP.2.2.1.2.2.2.2.1 | (have q := hP.2.2.1.2.2.2.2.1; have q0 := hP.1; have q1 := hP.2.1; have q2 := hP.2.2.1.2.2.2.2.2; simp only [up2_def]; grind)
      · first | exact hP.2.2.1.2.2.2.2.2 | (have q := hP.2.2.1.2.2.2.2.2; have q0 := hP.1; have q1 := hP.2.1; have q2 := hP.2.2.1.2.2.2.2.2; simp only [up2_def]; grind)
      · first | exact hP.2.2.2.1 | (have q := hP.2.2.2.1; have q0 := hP.1; have q1 := hP.2.1; have q2 := hP.2.2.1.2.2.2.2.2; simp only [up2_def]; grind)
      · first | exact hP.2.2.2.2.1 | (have q := hP.2.2.2.2.1; have q0 := hP.1; have q1 := hP.2.1; have q2 := hP.2.2.1.2.2.2.2.2; simp only [up2_def]; grind)
      · first | exact hP.2.2.2.2.2.1 | (have q := hP.2.2.2.2.2.1; have q0 := hP.1; have q1 := hP.2.1; have q2 := hP.2.2.1.2.2.2.2.2; simp only [up2_def]; grind)
      · first | exact hP.2.2.2.2.2.2.1 | (have q := hP.2.2.2.2.2.2.1; have q0 := hP.1; have q1 := hP.2.1; have q2 := hP.2.2.1.2.2.2.2.2; simp only [up2_def]; grind)
      · first | exact hP.2.2.2.2.2.2.2.1 | (have q := hP.2.2.2.2.2.2.2.1; have q0 := hP.1; have q1 := hP.2.1; have q2 := hP.2.2.1.2.2.2.2.2; simp only [up2_def]; grind)
      · first | exact hP.2.2.2.2.2.2.2.2 | (have q := hP.2.2.2.2.2.2.2.2; have q0 := hP.1; have q1 := hP.2.1; have q2 := hP.2.2.1.2.2.2.2.2; simp only [up2_def]; grind)
    · repeat (first | rfl | refine (rs_up (by rfl)).trans ?_)
  refine ⟨0, _, _, (S_177 (by show 0 ≤ I 2 6 ∧ I 2 6 ≤ 12; first | omega | assumption) (by show 0 ≤ I 2 7 ∧ I 2 7 ≤ 200; first | omega | assumption) (by show 0 ≤ I 8 p.toNat ∧ I 8 p.toNat ≤ 200; first | omega | assumption)).trans (if_neg c0), (S_325 (by show 0 ≤ I 82 3 ∧ I 82 3 ≤ 12; first | omega | assumption) (by show 0 ≤ I 82 16 ∧ I 82 16 ≤ 200; first | omega | assumption) (by show 0 ≤ I 89 p.toNat ∧ I 89 p.toNat ≤ 200; first | omega | assumption)).trans (if_neg (by show ¬ ((0 ≤ p ∧ p < I 82 3) ∧ I 82 16 < 200); omega)), ⟨hT, hP, hC, hW, hL, hI, hS⟩, rfl⟩
theorem o_shift (k x y : Int) (hh : InvS I) : OpR 124 298 [(0, k), (0, x), (0, y)] I sp rt tt z := by
  obtain ⟨hT, hP, hC, hW, hL, hI, hS⟩ := hh
  have s1 := hS.1
  by_cases c0 : (0 ≤ k ∧ k < I 45 0) ∧ -100000 ≤ x ∧ x ≤ 100000 ∧ -100000 ≤ y ∧ y ≤ 100000
  · refine ⟨1, _, _, (S_124 (by show 0 ≤ I 45 0 ∧ I 45 0 ≤ 15; first | omega | assumption)).trans (if_pos c0), (S_298 (by show 0 ≤ I 82 8 ∧ I 82 8 ≤ 15; first | omega | assumption)).trans ((if_pos (by show (0 ≤ k ∧ k < I 82 8) ∧ -100000 ≤ x ∧ x ≤ 100000 ∧ -100000 ≤ y ∧ y ≤ 100000; omega)).trans (eqv (by show 1 = 1; omega))), ⟨hT, hP, hC, hW, hL, hI, ?_⟩, ?_⟩
    · unfold GS
      repeat' apply And.intro
      · first | exact hS.1.1.1 | (have q := hS.1.1.1; have q0 := hS.1; simp only [up2_def]; grind)
      · first | exact hS.1.1.2.1 | (have q := hS.1.1.2.1; have q0 := hS.1; simp only [up2_def]; grind)
      · first | exact hS.1.1.2.2 | (have q := hS.1.1.2.2; have q0 := hS.1; simp only [up2_def]; grind)
      · first | exact hS.1.2.1.1 | (have q := hS.1.2.1.1; have q0 := hS.1; simp only [up2_def]; grind)
      · first | exact hS.1.2.1.2.1 | (have q := hS.1.2.1.2.1; have q0 := hS.1; simp only [up2_def]; grind)
      · first | exact hS.1.2.1.2.2 | (have q := hS.1.2.1.2.2; have q0 := hS.1; simp only [up2_def]; grind)
      · first | exact hS.1.2.2.1.1 | (have q := hS.1.2.2.1.1; have q0 := hS.1; simp only [up2_def]; grind)
      · first | exact hS.1.2.2.1.2.1 | (have q := hS.1.2.2.1.2.1; have q0 := hS.1; simp only [up2_def]; grind)
      · first | exact hS.1.2.2.1.2.2 | (have q := hS.1.2.2.1.2.2; have q0 := hS.1; simp only [up2_def]; grind)
      · first | exact hS.1.2.2.2.1 | (have q := hS.1.2.2.2.1; have q0 := hS.1; simp only [up2_def]; grind)
      · first | exact hS.1.2.2.2.2.1 | (have q := hS.1.2.2.2.2.1; have q0 := hS.1; simp only [up2_def]; grind)
      · first | exact hS.1.2.2.2.2.2 | (have q := hS.1.2.2.2.2.2; have q0 := hS.1; simp only [up2_def]; grind)
      · first | exact hS.2.1.1 | (have q := hS.2.1.1; have q0 := hS.1; simp only [up2_def]; grind)
      · first | exact hS.2.1.2.1 | (have q := hS.2.1.2.1; have q0 := hS.1; simp only [up2_def]; grind)
      · first | exact hS.2.1.2.2.1 | (have q := hS.2.1.2.2.1; have q0 := hS.1; simp only [up2_def]; grind)
      · first | exact hS.2.1.2.2.2.1 | (have q := hS.2.1.2.2.2.1; have q0 := hS.1; simp only [up2_def]; grind)
      · first | exact hS.2.1.2.2.2.2.1 | (have q := hS.2.1.2.2.2.2.1; have q0 := hS.1; simp only [up2_def]; grind)
      · first | exact hS.2.1.2.2.2.2.2 | (have q := hS.2.1.2.2.2.2.2; have q0 := hS.1; simp only [up2_def]; grind)
      · first | exact hS.2.2.1 | (have q := hS.2.2.1; have q0 := hS.1; simp only [up2_def]; grind)
      · first | exact hS.2.2.2.1 | (have q := hS.2.2.2.1; have q0 := hS.1; simp only [up2_def]; grind)
      · first | exact hS.2.2.2.2.1 | (have q := hS.2.2.2.2.1; have q0 := hS.1; simp only [up2_def]; grind)
      · first | exact hS.2.2.2.2.2 | (have q := hS.2.2.2.2.2; have q0 := hS.1; simp only [up2_def]; grind)
    · repeat (first | rfl | refine (rs_up (by rfl)).trans ?_)
  refine ⟨0, _, _, (S_124 (by show 0 ≤ I 45 0 ∧ I 45 0 ≤ 15; first | omega | assumption)).trans (if_neg c0), (S_298 (by show 0 ≤ I 82 8 ∧ I 82 8 ≤ 15; first | omega | assumption)).trans (if_neg (by show ¬ ((0 ≤ k ∧ k < I 82 8) ∧ -100000 ≤ x ∧ x ≤ 100000 ∧ -100000 ≤ y ∧ y ≤ 100000); omega)), ⟨hT, hP, hC, hW, hL, hI, hS⟩, rfl⟩
theorem o_water (k x y : Int) (hh : InvS I) : OpR 127 300 [(0, k), (0, x), (0, y)] I sp rt tt z := by
  obtain ⟨hT, hP, hC, hW, hL, hI, hS⟩ := hh
  have s1 := hS.1
  by_cases c0 : I 45 1 < 30 ∧ (0 ≤ k ∧ k < I 45 0) ∧ -100000 ≤ x ∧ x ≤ 100000 ∧ -100000 ≤ y ∧ y ≤ 100000
  · refine ⟨I 45 1, _, _, (S_127 (by show 0 ≤ I 45 0 ∧ I 45 0 ≤ 15; first | omega | assumption) (by show 0 ≤ I 45 1 ∧ I 45 1 ≤ 30; first | omega | assumption)).trans (if_pos c0), (S_300 (by show 0 ≤ I 82 8 ∧ I 82 8 ≤ 15; first | omega | assumption) (by show 0 ≤ I 82 9 ∧ I 82 9 ≤ 30; first | omega | assumption)).trans ((if_pos (by show I 82 9 < 30 ∧ (0 ≤ k ∧ k < I 82 8) ∧ -100000 ≤ x ∧ x ≤ 100000 ∧ -100000 ≤ y ∧ y ≤ 100000; omega)).trans (eqv (by show I 82 9 = I 45 1; omega))), ⟨hT, hP, hC, hW, hL, hI, ?_⟩, ?_⟩
    · unfold GS
      repeat' apply And.intro
      · first | exact hS.1.1.1 | (have q := hS.1.1.1; have q0 := hS.1; simp only [up2_def]; grind)
      · first | exact hS.1.1.2.1 | (have q := hS.1.1.2.1; have q0 := hS.1; simp only [up2_def]; grind)
      · first | exact hS.1.1.2.2 | (have q := hS.1.1.2.2; have q0 := hS.1; simp only [up2_def]; grind)
      · first | exact hS.1.2.1.1 | (have q := hS.1.2.1.1; have q0 := hS.1; simp only [up2_def]; grind)
      · first | exact hS.1.2.1.2.1 | (have q := hS.1.2.1.2.1; have q0 := hS.1; simp only [up2_def]; grind)
      · first | exact hS.1.2.1.2.2 | (have q := hS.1.2.1.2.2; have q0 := hS.1; simp only [up2_def]; grind)
      · first | exact hS.1.2.2.1.1 | (have q := hS.1.2.2.1.1; have q0 := hS.1; simp only [up2_def]; grind)
      · first | exact hS.1.2.2.1.2.1 | (have q := hS.1.2.2.1.2.1; have q0 := hS.1; simp only [up2_def]; grind)
      · first | exact hS.1.2.2.1.2.2 | (have q := hS.1.2.2.1.2.2; have q0 := hS.1; simp only [up2_def]; grind)
      · first | exact hS.1.2.2.2.1 | (have q := hS.1.2.2.2.1; have q0 := hS.1; simp only [up2_def]; grind)
      · first | exact hS.1.2.2.2.2.1 | (have q := hS.1.2.2.2.2.1; have q0 := hS.1; simp only [up2_def]; grind)
      · first | exact hS.1.2.2.2.2.2 | (have q := hS.1.2.2.2.2.2; have q0 := hS.1; simp only [up2_def]; grind)
      · first | exact hS.2.1.1 | (have q := hS.2.1.1; have q0 := hS.1; simp only [up2_def]; grind)
      · first | exact hS.2.1.2.1 | (have q := hS.2.1.2.1; have q0 := hS.1; simp only [up2_def]; grind)
      · first | exact hS.2.1.2.2.1 | (have q := hS.2.1.2.2.1; have q0 := hS.1; simp only [up2_def]; grind)
      · first | exact hS.2.1.2.2.2.1 | (have q := hS.2.1.2.2.2.1; have q0 := hS.1; simp only [up2_def]; grind)
      · first | exact hS.2.1.2.2.2.2.1 | (have q := hS.2.1.2.2.2.2.1; have q0 := hS.1; simp only [up2_def]; grind)
      · first | exact hS.2.1.2.2.2.2.2 | (have q := hS.2.1.2.2.2.2.2; have q0 := hS.1; simp only [up2_def]; grind)
      · first | exact hS.2.2.1 | (have q := hS.2.2.1; have q0 := hS.1; simp only [up2_def]; grind)
      · first | exact hS.2.2.2.1 | (have q := hS.2.2.2.1; have q0 := hS.1; simp only [up2_def]; grind)
      · first | exact hS.2.2.2.2.1 | (have q := hS.2.2.2.2.1; have q0 := hS.1; simp only [up2_def]; grind)
      · first | exact hS.2.2.2.2.2 | (have q := hS.2.2.2.2.2; have q0 := hS.1; simp only [up2_def]; grind)
    · repeat (first | rfl | refine (rs_up (by rfl)).trans ?_)
  refine ⟨-1, _, _, (S_127 (by show 0 ≤ I 45 0 ∧ I 45 0 ≤ 15; first | omega | assumption) (by show 0 ≤ I 45 1 ∧ I 45 1 ≤ 30; first | omega | assumption)).trans (if_neg c0), (S_300 (by show 0 ≤ I 82 8 ∧ I 82 8 ≤ 15; first | omega | assumption) (by show 0 ≤ I 82 9 ∧ I 82 9 ≤ 30; first | omega | assumption)).trans (if_neg (by show ¬ (I 82 9 < 30 ∧ (0 ≤ k ∧ k < I 82 8) ∧ -100000 ≤ x ∧ x ≤ 100000 ∧ -100000 ≤ y ∧ y ≤ 100000); omega)), ⟨hT, hP, hC, hW, hL, hI, hS⟩, rfl⟩
theorem o_face (p k x y : Int) (hh : InvS I) : OpR 130 301 [(0, p), (0, k), (0, x), (0, y)] I sp rt tt z := by
  obtain ⟨hT, hP, hC, hW, hL, hI, hS⟩ := hh
  have p1 := hP.1
  have s1 := hS.1
  by_cases c0 : (0 ≤ p ∧ p < I 2 6) ∧ I 45 2 < 30 ∧ (0 ≤ k ∧ k < I 45 0) ∧ -100000 ≤ x ∧ x ≤ 100000 ∧ -100000 ≤ y ∧ y ≤ 100000
  · refine ⟨I 45 2, _, _, (S_130 (by show 0 ≤ I 45 0 ∧ I 45 0 ≤ 15; first | omega | assumption) (by show 0 ≤ I 45 2 ∧ I 45 2 ≤ 30; first | omega | assumption)).trans (if_pos c0), (S_301 (by show 0 ≤ I 82 3 ∧ I 82 3 ≤ 12; first | omega | assumption) (by show 0 ≤ I 82 8 ∧ I 82 8 ≤ 15; first | omega | assumption) (by show 0 ≤ I 82 10 ∧ I 82 10 ≤ 30; first | omega | assumption)).trans ((if_pos (by show I 82 10 < 30 ∧ (0 ≤ p ∧ p < I 82 3) ∧ (0 ≤ k ∧ k < I 82 8) ∧ -100000 ≤ x ∧ x ≤ 100000 ∧ -100000 ≤ y ∧ y ≤ 100000; omega)).trans (eqv (by show I 82 10 = I 45 2; omega))), ⟨hT, hP, hC, hW, hL, hI, ?_⟩, ?_⟩
    · unfold GS
      repeat' apply And.intro
      · first | exact hS.1.1.1 | (have q := hS.1.1.1; have q0 := hS.1; have q1 := hP.1; simp only [up2_def]; grind)
      · first | exact hS.1.1.2.1 | (have q := hS.1.1.2.1; have q0 := hS.1; have q1 := hP.1; simp only [up2_def]; grind)
      · first | exact hS.1.1.2.2 | (have q := hS.1.1.2.2; have q0 := hS.1; have q1 := hP.1; simp only [up2_def]; grind)
      · first | exact hS.1.2.1.1 | (have q := hS.1.2.1.1; have q0 := hS.1; have q1 := hP.1; simp only [up2_def]; grind)
      · first | exact hS.1.2.1.2.1 | (have q := hS.1.2.1.2.1; have q0 := hS.1; have q1 := hP.1; simp only [up2_def]; grind)
      · first | exact hS.1.2.1.2.2 | (have q := hS.1.2.1.2.2; have q0 := hS.1; have q1 := hP.1; simp only [up2_def]; grind)
      · first | exact hS.1.2.2.1.1 | (have q := hS.1.2.2.1.1; have q0 := hS.1; have q1 := hP.1; simp only [up2_def]; grind)
      · first | exact hS.1.2.2.1.2.1 | (have q := hS.1.2.2.1.2.1; have q0 := hS.1; have q1 := hP.1; simp only [up2_def]; grind)
      · first | exact hS.1.2.2.1.2.2 | (have q := hS.1.2.2.1.2.2; have q0 := hS.1; have q1 := hP.1; simp only [up2_def]; grind)
      · first | exact hS.1.2.2.2.1 | (have q := hS.1.2.2.2.1; have q0 := hS.1; have q1 := hP.1; simp only [up2_def]; grind)
      · first | exact hS.1.2.2.2.2.1 | (have q := hS.1.2.2.2.2.1; have q0 := hS.1; have q1 := hP.1; simp only [up2_def]; grind)
      · first | exact hS.1.2.2.2.2.2 | (have q := hS.1.2.2.2.2.2; have q0 := hS.1; have q1 := hP.1; simp only [up2_def]; grind)
      · first | exact hS.2.1.1 | (have q := hS.2.1.1; have q0 := hS.1; have q1 := hP.1; simp only [up2_def]; grind)
      · first | exact hS.2.1.2.1 | (have q := hS.2.1.2.1; have q0 := hS.1; have q1 := hP.1; simp only [up2_def]; grind)
      · first | exact hS.2.1.2.2.1 | (have q := hS.2.1.2.2.1; have q0 := hS.1; have q1 := hP.1; simp only [up2_def]; grind)
      · first | exact hS.2.1.2.2.2.1 | (have q := hS.2.1.2.2.2.1; have q0 := hS.1; have q1 := hP.1; simp only [up2_def]; grind)
      · first | exact hS.2.1.2.2.2.2.1 | (have q := hS.2.1.2.2.2.2.1; have q0 := hS.1; have q1 := hP.1; simp only [up2_def]; grind)
      · first | exact hS.2.1.2.2.2.2.2 | (have q := hS.2.1.2.2.2.2.2; have q0 := hS.1; have q1 := hP.1; simp only [up2_def]; grind)
      · first | exact hS.2.2.1 | (have q := hS.2.2.1; have q0 := hS.1; have q1 := hP.1; simp only [up2_def]; grind)
      · first | exact hS.2.2.2.1 | (have q := hS.2.2.2.1; have q0 := hS.1; have q1 := hP.1; simp only [up2_def]; grind)
      · first | exact hS.2.2.2.2.1 | (have q := hS.2.2.2.2.1; have q0 := hS.1; have q1 := hP.1; simp only [up2_def]; grind)
      · first | exact hS.2.2.2.2.2 | (have q := hS.2.2.2.2.2; have q0 := hS.1; have q1 := hP.1; simp only [up2_def]; grind)
    · repeat (first | rfl | refine (rs_up (by rfl)).trans ?_)
  refine ⟨-1, _, _, (S_130 (by show 0 ≤ I 45 0 ∧ I 45 0 ≤ 15; first | omega | assumption) (by show 0 ≤ I 45 2 ∧ I 45 2 ≤ 30; first | omega | assumption)).trans (if_neg c0), (S_301 (by show 0 ≤ I 82 3 ∧ I 82 3 ≤ 12; first | omega | assumption) (by show 0 ≤ I 82 8 ∧ I 82 8 ≤ 15; first | omega | assumption) (by show 0 ≤ I 82 10 ∧ I 82 10 ≤ 30; first | omega | assumption)).trans (if_neg (by show ¬ (I 82 10 < 30 ∧ (0 ≤ p ∧ p < I 82 3) ∧ (0 ≤ k ∧ k < I 82 8) ∧ -100000 ≤ x ∧ x ≤ 100000 ∧ -100000 ≤ y ∧ y ≤ 100000); omega)), ⟨hT, hP, hC, hW, hL, hI, hS⟩, rfl⟩
theorem o_shot (h : Int) (hh : InvS I) : OpR 159 316 [(0, h)] I sp rt tt z := by
  obtain ⟨hT, hP, hC, hW, hL, hI, hS⟩ := hh
  have c1 := hC.1
  have c2 := hC.2.1.2.1 h.toNat
  have c3 := hC.2.1.2.2.1 h.toNat
  have t1 := hT.1
  by_cases c0 : (0 ≤ h ∧ h < I 55 0) ∧ I 57 h.toNat = 3 ∧ ¬ I 58 h.toNat = -1 ∧ I 55 13 < 300
  · refine ⟨1, _, _, (S_159 (by show 0 ≤ I 55 0 ∧ I 55 0 ≤ 40; first | omega | assumption) (by show 0 ≤ I 55 13 ∧ I 55 13 ≤ 300; first | omega | assumption)).trans (if_pos c0), (S_316 (by show 0 ≤ I 82 4 ∧ I 82 4 ≤ 40; first | omega | assumption) (by show 0 ≤ I 82 14 ∧ I 82 14 ≤ 300; first | omega | assumption)).trans ((if_pos (by show (0 ≤ h ∧ h < I 82 4) ∧ I 92 h.toNat = 3 ∧ ¬ I 93 h.toNat = -1 ∧ I 82 14 < 300; omega)).trans (eqv (by show 1 = 1; omega))), ⟨hT, hP, ?_, hW, hL, hI, hS⟩, ?_⟩
    · unfold GC
      repeat' apply And.intro
      · first | exact hC.1.1.1 | (have q := hC.1.1.1; have q0 := hC.1; have q1 := hC.2.1.1; have q2 := hT.1; simp only [up2_def]; grind)
      · first | exact hC.1.1.2.1 | (have q := hC.1.1.2.1; have q0 := hC.1; have q1 := hC.2.1.1; have q2 := hT.1; simp only [up2_def]; grind)
      · first | exact hC.1.1.2.2 | (have q := hC.1.1.2.2; have q0 := hC.1; have q1 := hC.2.1.1; have q2 := hT.1; simp only [up2_def]; grind)
      · first | exact hC.1.2.1.1 | (have q := hC.1.2.1.1; have q0 := hC.1; have q1 := hC.2.1.1; have q2 := hT.1; simp only [up2_def]; grind)
      · first | exact hC.1.2.1.2.1 | (have q := hC.1.2.1.2.1; have q0 := hC.1; have q1 := hC.2.1.1; have q2 := hT.1; simp only [up2_def]; grind)
      · first | exact hC.1.2.1.2.2 | (have q := hC.1.2.1.2.2; have q0 := hC.1; have q1 := hC.2.1.1; have q2 := hT.1; simp only [up2_def]; grind)
      · first | exact hC.1.2.2.1.1 | (have q := hC.1.2.2.1.1; have q0 := hC.1; have q1 := hC.2.1.1; have q2 := hT.1; simp only [up2_def]; grind)
      · first | exact hC.1.2.2.1.2.1 | (have q := hC.1.2.2.1.2.1; have q0 := hC.1; have q1 := hC.2.1.1; have q2 := hT.1; simp only [up2_def]; grind)
      · first | exact hC.1.2.2.1.2.2 | (have q := hC.1.2.2.1.2.2; have q0 := hC.1; have q1 := hC.2.1.1; have q2 := hT.1; simp only [up2_def]; grind)
      · first | exact hC.1.2.2.2.1 | (have q := hC.1.2.2.2.1; have q0 := hC.1; have q1 := hC.2.1.1; have q2 := hT.1; simp only [up2_def]; grind)
      · first | exact hC.1.2.2.2.2.1 | (have q := hC.1.2.2.2.2.1; have q0 := hC.1; have q1 := hC.2.1.1; have q2 := hT.1; simp only [up2_def]; grind)
      · first | exact hC.1.2.2.2.2.2 | (have q := hC.1.2.2.2.2.2; have q0 := hC.1; have q1 := hC.2.1.1; have q2 := hT.1; simp only [up2_def]; grind)
      · first | exact hC.2.1.1 | (have q := hC.2.1.1; have q0 := hC.1; have q1 := hC.2.1.1; have q2 := hT.1; simp only [up2_def]; grind)
      · first | exact hC.2.1.2.1 | (have q := hC.2.1.2.1; have q0 := hC.1; have q1 := hC.2.1.1; have q2 := hT.1; simp only [up2_def]; grind)
      · first | exact hC.2.1.2.2.1 | (have q := hC.2.1.2.2.1; have q0 := hC.1; have q1 := hC.2.1.1; have q2 := hT.1; simp only [up2_def]; grind)
      · first | exact hC.2.1.2.2.2.1 | (have q := hC.2.1.2.2.2.1; have q0 := hC.1; have q1 := hC.2.1.1; have q2 := hT.1; simp only [up2_def]; grind)
      · first | exact hC.2.1.2.2.2.2.1 | (have q := hC.2.1.2.2.2.2.1; have q0 := hC.1; have q1 := hC.2.1.1; have q2 := hT.1; simp only [up2_def]; grind)
      · first | exact hC.2.1.2.2.2.2.2.1 | (have q := hC.2.1.2.2.2.2.2.1; have q0 := hC.1; have q1 := hC.2.1.1; have q2 := hT.1; simp only [up2_def]; grind)
      · first | exact hC.2.1.2.2.2.2.2.2.1 | (have q := hC.2.1.2.2.2.2.2.2.1; have q0 := hC.1; have q1 := hC.2.1.1; have q2 := hT.1; simp only [up2_def]; grind)
      · first | exact hC.2.1.2.2.2.2.2.2.2.1 | (have q := hC.2.1.2.2.2.2.2.2.2.1; have q0 := hC.1; have q1 := hC.2.1.1; have q2 := hT.1; simp only [up2_def]; grind)
      · first | exact hC.2.1.2.2.2.2.2.2.2.2 | (have q := hC.2.1.2.2.2.2.2.2.2.2; have q0 := hC.1; have q1 := hC.2.1.1; have q2 := hT.1; simp only [up2_def]; grind)
      · first | exact hC.2.2.1 | (have q := hC.2.2.1; have q0 := hC.1; have q1 := hC.2.1.1; have q2 := hT.1; simp only [up2_def]; grind)
      · first | exact hC.2.2.2.1 | (have q := hC.2.2.2.1; have q0 := hC.1; have q1 := hC.2.1.1; have q2 := hT.1; simp only [up2_def]; grind)
      · first | exact hC.2.2.2.2.1 | (have q := hC.2.2.2.2.1; have q0 := hC.1; have q1 := hC.2.1.1; have q2 := hT.1; simp only [up2_def]; grind)
      · first | exact hC.2.2.2.2.2.1 | (have q := hC.2.2.2.2.2.1; have q0 := hC.1; have q1 := hC.2.1.1; have q2 := hT.1; simp only [up2_def]; grind)
      · first | exact hC.2.2.2.2.2.2.1 | (have q := hC.2.2.2.2.2.2.1; have q0 := hC.1; have q1 := hC.2.1.1; have q2 := hT.1; simp only [up2_def]; grind)
      · first | exact hC.2.2.2.2.2.2.2.1 | (have q := hC.2.2.2.2.2.2.2.1; have q0 := hC.1; have q1 := hC.2.1.1; have q2 := hT.1; simp only [up2_def]; grind)
      · first | exact hC.2.2.2.2.2.2.2.2 | (have q := hC.2.2.2.2.2.2.2.2; have q0 := hC.1; have q1 := hC.2.1.1; have q2 := hT.1; simp only [up2_def]; grind)
    · repeat (first | rfl | refine (rs_up (by rfl)).trans ?_)
  refine ⟨0, _, _, (S_159 (by show 0 ≤ I 55 0 ∧ I 55 0 ≤ 40; first | omega | assumption) (by show 0 ≤ I 55 13 ∧ I 55 13 ≤ 300; first | omega | assumption)).trans (if_neg c0), (S_316 (by show 0 ≤ I 82 4 ∧ I 82 4 ≤ 40; first | omega | assumption) (by show 0 ≤ I 82 14 ∧ I 82 14 ≤ 300; first | omega | assumption)).trans (if_neg (by show ¬ ((0 ≤ h ∧ h < I 82 4) ∧ I 92 h.toNat = 3 ∧ ¬ I 93 h.toNat = -1 ∧ I 82 14 < 300); omega)), ⟨hT, hP, hC, hW, hL, hI, hS⟩, rfl⟩
end O3

