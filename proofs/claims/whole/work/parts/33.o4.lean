/-! hands go down and up -/
theorem sm_ext {f g : Nat → Int} {n m : Nat} (hm : m = n + 1) (h : ∀ i, i < n → g i = f i) (h0 : g n = 0) : sm f n = sm g m := by
  subst hm
  show _ = sm g n + g n
  rw [h0, sm_congr h]
  omega
theorem be_set {I I' : Nat → Nat → Int} {n k : Nat} {v p : Int} (hk : k < n) (h56 : ∀ i, I' 56 i = I 56 i) (h58 : ∀ i, I' 58 i = if i = k then v else I 58 i) :
    sm (fun h => bz (I' 56 h = p ∧ ¬ I' 58 h = -1)) n = sm (fun h => bz (I 56 h = p ∧ ¬ I 58 h = -1)) n - bz (I 56 k = p ∧ ¬ I 58 k = -1) + bz (I 56 k = p ∧ ¬ v = -1) := by
  rw [sm_set (f := fun h => bz (I 56 h = p ∧ ¬ I 58 h = -1)) (g := fun h => bz (I' 56 h = p ∧ ¬ I' 58 h = -1)) hk (fun i _ hn => by rw [h56, h58, if_neg hn])]
  rw [h56, h58, if_pos rfl]
theorem la_set {I I' : Nat → Nat → Int} {n k : Nat} {v p : Int} (hk : k < n) (h56 : ∀ i, I' 56 i = I 56 i) (h58 : ∀ i, I' 58 i = if i = k then v else I 58 i) (h62 : ∀ i, i < n → i ≠ k → ¬ I 58 i = -1 → I' 62 (I 58 i).toNat = I 62 (I 58 i).toNat) :
    sm (fun h => bz (I' 56 h = p ∧ ¬ I' 58 h = -1 ∧ ¬ I' 62 (I' 58 h).toNat = -1)) n = sm (fun h => bz (I 56 h = p ∧ ¬ I 58 h = -1 ∧ ¬ I 62 (I 58 h).toNat = -1)) n - bz (I 56 k = p ∧ ¬ I 58 k = -1 ∧ ¬ I 62 (I 58 k).toNat = -1) + bz (I 56 k = p ∧ ¬ v = -1 ∧ ¬ I' 62 v.toNat = -1) := by
  rw [sm_set (f := fun h => bz (I 56 h = p ∧ ¬ I 58 h = -1 ∧ ¬ I 62 (I 58 h).toNat = -1)) (g := fun h => bz (I' 56 h = p ∧ ¬ I' 58 h = -1 ∧ ¬ I' 62 (I' 58 h).toNat = -1)) hk (fun i hi hn => by
    rw [h56, h58, if_neg hn]
    by_cases c : I 58 i = -1
    · rw [bz_f (fun w => w.2.1 c), bz_f (fun w => w.2.1 c)]
    · rw [h62 i hi hn c])]
  rw [h56, h58, if_pos rfl]
section O4
variable {I : Nat → Nat → Int} {sp rt : Nat} {tt : Nat → Nat} {z : Zs}
theorem o_hand (p e : Int) (hh : InvS I) : OpR 19 213 [(0, p), (0, e)] I sp rt tt z := by
  obtain ⟨hT, hP, hC, hW, hL, hI, hS⟩ := hh
  have p1 := hP.1
  have c1 := hC.1
  by_cases c0 : (0 ≤ p ∧ p < I 2 6) ∧ I 55 0 < 40 ∧ 0 ≤ e ∧ e ≤ 4
  · refine ⟨I 55 0, _, _, (S_19 (by show 0 ≤ I 55 0 ∧ I 55 0 ≤ 40; first | omega | assumption)).trans (if_pos c0), (S_213 (by show 0 ≤ I 82 3 ∧ I 82 3 ≤ 12; first | omega | assumption) (by show 0 ≤ I 82 4 ∧ I 82 4 ≤ 40; first | omega | assumption)).trans ((if_pos (by show I 82 4 < 40 ∧ (0 ≤ p ∧ p < I 82 3) ∧ 0 ≤ e ∧ e ≤ 4; omega)).trans (eqv (by show I 82 4 = I 55 0; omega))), ⟨hT, hP, ?_, ?_, hL, hI, hS⟩, ?_⟩
    · unfold GC
      repeat' apply And.intro
      · first | exact hC.1.1.1 | (have q := hC.1.1.1; have q0 := hC.1; have q1 := hP.1; simp only [up2_def]; grind)
      · first | exact hC.1.1.2.1 | (have q := hC.1.1.2.1; have q0 := hC.1; have q1 := hP.1; simp only [up2_def]; grind)
      · first | exact hC.1.1.2.2 | (have q := hC.1.1.2.2; have q0 := hC.1; have q1 := hP.1; simp only [up2_def]; grind)
      · first | exact hC.1.2.1.1 | (have q := hC.1.2.1.1; have q0 := hC.1; have q1 := hP.1; simp only [up2_def]; grind)
      · first | exact hC.1.2.1.2.1 | (have q := hC.1.2.1.2.1; have q0 := hC.1; have q1 := hP.1; simp only [up2_def]; grind)
      · first | exact hC.1.2.1.2.2 | (have q := hC.1.2.1.2.2; have q0 := hC.1; have q1 := hP.1; simp only [up2_def]; grind)
      · first | exact hC.1.2.2.1.1 | (have q := hC.1.2.2.1.1; have q0 := hC.1; have q1 := hP.1; simp only [up2_def]; grind)
      · first | exact hC.1.2.2.1.2.1 | (have q := hC.1.2.2.1.2.1; have q0 := hC.1; have q1 := hP.1; simp only [up2_def]; grind)
      · first | exact hC.1.2.2.1.2.2 | (have q := hC.1.2.2.1.2.2; have q0 := hC.1; have q1 := hP.1; simp only [up2_def]; grind)
      · first | exact hC.1.2.2.2.1 | (have q := hC.1.2.2.2.1; have q0 := hC.1; have q1 := hP.1; simp only [up2_def]; grind)
      · first | exact hC.1.2.2.2.2.1 | (have q := hC.1.2.2.2.2.1; have q0 := hC.1; have q1 := hP.1; simp only [up2_def]; grind)
      · first | exact hC.1.2.2.2.2.2 | (have q := hC.1.2.2.2.2.2; have q0 := hC.1; have q1 := hP.1; simp only [up2_def]; grind)
      · first | exact hC.2.1.1 | (have q := hC.2.1.1; have q0 := hC.1; have q1 := hP.1; simp only [up2_def]; grind)
      · first | exact hC.2.1.2.1 | (have q := hC.2.1.2.1; have q0 := hC.1; have q1 := hP.1; simp only [up2_def]; grind)
      · first | exact hC.2.1.2.2.1 | (have q := hC.2.1.2.2.1; have q0 := hC.1; have q1 := hP.1; simp only [up2_def]; grind)
      · first | exact hC.2.1.2.2.2.1 | (have q := hC.2.1.2.2.2.1; have q0 := hC.1; have q1 := hP.1; simp only [up2_def]; grind)
      · first | exact hC.2.1.2.2.2.2.1 | (have q := hC.2.1.2.2.2.2.1; have q0 := hC.1; have q1 := hP.1; simp only [up2_def]; grind)
      · first | exact hC.2.1.2.2.2.2.2.1 | (have q := hC.2.1.2.2.2.2.2.1; have q0 := hC.1; have q1 := hP.1; simp only [up2_def]; grind)
      · first | exact hC.2.1.2.2.2.2.2.2.1 | (have q := hC.2.1.2.2.2.2.2.2.1; have q0 := hC.1; have q1 := hP.1; simp only [up2_def]; grind)
      · first | exact hC.2.1.2.2.2.2.2.2.2.1 | (have q := hC.2.1.2.2.2.2.2.2.2.1; have q0 := hC.1; have q1 := hP.1; simp only [up2_def]; grind)
      · first | exact hC.2.1.2.2.2.2.2.2.2.2 | (have q := hC.2.1.2.2.2.2.2.2.2.2; have q0 := hC.1; have q1 := hP.1; simp only [up2_def]; grind)
      · first | exact hC.2.2.1 | (have q := hC.2.2.1; have q0 := hC.1; have q1 := hP.1; simp only [up2_def]; grind)
      · first | exact hC.2.2.2.1 | (have q := hC.2.2.2.1; have q0 := hC.1; have q1 := hP.1; simp only [up2_def]; grind)
      · first | exact hC.2.2.2.2.1 | (have q := hC.2.2.2.2.1; have q0 := hC.1; have q1 := hP.1; simp only [up2_def]; grind)
      · exact fun p hp => (hC.2.2.2.2.2.1 p hp).trans (sm_ext (by simp only [up2_def]; simp; omega) (fun i hi => by
        have hn : i ≠ (I 55 0).toNat := by omega
        have hm : i ≠ (I 82 4).toNat := by omega
        simp only [up2_def]; simp [hn]) (by simp only [up2_def]; simp [bz]))
      · exact fun p hp => (hC.2.2.2.2.2.2.1 p hp).trans (sm_ext (by simp only [up2_def]; simp; omega) (fun i hi => by
        have hn : i ≠ (I 55 0).toNat := by omega
        simp only [up2_def]; simp [hn]) (by simp only [up2_def]; simp [bz]))
      · first | exact hC.2.2.2.2.2.2.2.1 | (have q := hC.2.2.2.2.2.2.2.1; have q0 := hC.1; have q1 := hP.1; simp only [up2_def]; grind)
      · first | exact hC.2.2.2.2.2.2.2.2 | (have q := hC.2.2.2.2.2.2.2.2; have q0 := hC.1; have q1 := hP.1; simp only [up2_def]; grind)
    · unfold GW
      repeat' apply And.intro
      · first | exact hW.1.1 | (have q := hW.1.1; have q0 := hW.1; have q1 := hC.1; simp only [up2_def]; grind)
      · first | exact hW.1.2.1 | (have q := hW.1.2.1; have q0 := hW.1; have q1 := hC.1; simp only [up2_def]; grind)
      · first | exact hW.1.2.2 | (have q := hW.1.2.2; have q0 := hW.1; have q1 := hC.1; simp only [up2_def]; grind)
      · first | exact hW.2.1 | (have q := hW.2.1; have q0 := hW.1; have q1 := hC.1; simp only [up2_def]; grind)
      · first | exact hW.2.2.1 | (have q := hW.2.2.1; have q0 := hW.1; have q1 := hC.1; simp only [up2_def]; grind)
      · first | exact hW.2.2.2.1 | (have q := hW.2.2.2.1; have q0 := hW.1; have q1 := hC.1; simp only [up2_def]; grind)
      · first | exact hW.2.2.2.2.1 | (have q := hW.2.2.2.2.1; have q0 := hW.1; have q1 := hC.1; simp only [up2_def]; grind)
      · first | exact hW.2.2.2.2.2.1 | (have q := hW.2.2.2.2.2.1; have q0 := hW.1; have q1 := hC.1; simp only [up2_def]; grind)
      · first | exact hW.2.2.2.2.2.2 | (have q := hW.2.2.2.2.2.2; have q0 := hW.1; have q1 := hC.1; simp only [up2_def]; grind)
    · repeat (first | rfl | refine (rs_up (by rfl)).trans ?_)
  refine ⟨-1, _, _, (S_19 (by show 0 ≤ I 55 0 ∧ I 55 0 ≤ 40; first | omega | assumption)).trans (if_neg c0), (S_213 (by show 0 ≤ I 82 3 ∧ I 82 3 ≤ 12; first | omega | assumption) (by show 0 ≤ I 82 4 ∧ I 82 4 ≤ 40; first | omega | assumption)).trans (if_neg (by show ¬ (I 82 4 < 40 ∧ (0 ≤ p ∧ p < I 82 3) ∧ 0 ≤ e ∧ e ≤ 4); omega)), ⟨hT, hP, hC, hW, hL, hI, hS⟩, rfl⟩
end O4

