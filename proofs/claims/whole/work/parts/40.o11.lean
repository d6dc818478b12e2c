/-! join, seen, count -/
section O11
variable {d : Nat} {I : Nat → Nat → Int} {sp rt : Nat} {tt : Nat → Nat} {z : Zs}
theorem S_140 {a e f b g h w : Int} (h0 : 0 ≤ I 45 0 ∧ I 45 0 ≤ 15) (h1 : 0 ≤ I 45 3 ∧ I 45 3 ≤ 30) : Call PG (d + 4) 140 [(2, 0), (0, a), (0, e), (0, f), (0, b), (0, g), (0, h), (0, w)] (I, RF sp rt tt z.1, z) = if I 45 3 < 30 ∧ (0 ≤ a ∧ a < I 45 0) ∧ (0 ≤ b ∧ b < I 45 0) ∧ ¬ a = b ∧ (-100000 ≤ e ∧ e ≤ 100000 ∧ -100000 ≤ f ∧ f ≤ 100000) ∧ (-100000 ≤ g ∧ g ≤ 100000 ∧ -100000 ≤ h ∧ h ≤ 100000) ∧ 0 ≤ w ∧ w ≤ 1000 then some (some (0, I 45 3), (up2 (up2 (up2 (up2 (up2 (up2 (up2 (up2 I 54 (I 45 3).toNat w) 45 3 (I 45 3 + 1)) 50 (60 + 2 * I 45 3 + 0).toNat a) 51 (60 + 2 * I 45 3 + 0).toNat e) 52 (60 + 2 * I 45 3 + 0).toNat f) 50 (60 + 2 * I 45 3 + 1).toNat b) 51 (60 + 2 * I 45 3 + 1).toNat g) 52 (60 + 2 * I 45 3 + 1).toNat h, RF sp rt tt z.1, z)) else some (some (0, -1), (I, RF sp rt tt z.1, z)) := by
  refine (K_140 ..).trans ?_
  have ee := S_141 (d := d + 1) (I := I) (sp := sp) (rt := rt) (tt := tt) (z := z) (e := w) (by omega)
  by_cases c1 : I 45 3 < 30 ∧ 0 ≤ w ∧ w ≤ 1000
  · rw [if_pos c1] at ee
    repeat' (first | refine bd_t ee ?_ | refine ci_bt (by omega) ?_ | refine ci_bf (by omega) ?_ | refine ite_b01 ?_ | refine ci_b (fun _ => ?_) (fun _ => ?_) | refine ci_t (by omega) ?_ | refine ci_f (by omega) ?_ | refine ite_t (by omega) ?_ | refine ite_f (by omega) ?_ | refine bd_t (S_126) ?_ | refine bd_t (S_141 (by omega)) ?_ | refine bd_t (S_142 (by omega) (by omega)) ?_ | refine (T_140_0 ..).trans ?_ | refine (T_140_16 ..).trans ?_ | refine (T_140_32 ..).trans ?_ | refine (T_140_46 ..).trans ?_ | refine (T_140_67 ..).trans ?_ | refine (T_140_83 ..).trans ?_ | refine ci_c (fun _ => ?_) (fun _ => ?_))
    all_goals first | exact spec_f (by omega) rfl | (refine spec_t (by omega) ?_; first | rfl | (simp (disch := omega) only [w32_of, Int.add_sub_cancel, up2_ne]; done)) | (refine spec_f (by omega) ?_; first | exact spec_f (by omega) rfl | (refine spec_t (by omega) ?_; first | rfl | (simp (disch := omega) only [w32_of, Int.add_sub_cancel, up2_ne]; done)))
  · rw [if_neg c1] at ee
    repeat' (first | refine bd_t ee ?_ | refine ci_bt (by omega) ?_ | refine ci_bf (by omega) ?_ | refine ite_b01 ?_ | refine ci_b (fun _ => ?_) (fun _ => ?_) | refine ci_t (by omega) ?_ | refine ci_f (by omega) ?_ | refine ite_t (by omega) ?_ | refine ite_f (by omega) ?_ | refine bd_t (S_126) ?_ | refine bd_t (S_141 (by omega)) ?_ | refine bd_t (S_142 (by omega) (by omega)) ?_ | refine (T_140_0 ..).trans ?_ | refine (T_140_16 ..).trans ?_ | refine (T_140_32 ..).trans ?_ | refine (T_140_46 ..).trans ?_ | refine (T_140_67 ..).trans ?_ | refine (T_140_83 ..).trans ?_ | refine ci_c (fun _ => ?_) (fun _ => ?_))
    all_goals first | exact spec_f (by omega) rfl | (refine spec_t (by omega) ?_; first | rfl | (simp (disch := omega) only [w32_of, Int.add_sub_cancel, up2_ne]; done)) | (refine spec_f (by omega) ?_; first | exact spec_f (by omega) rfl | (refine spec_t (by omega) ?_; first | rfl | (simp (disch := omega) only [w32_of, Int.add_sub_cancel, up2_ne]; done)))
theorem S_193 {h a w : Int} (h0 : 0 ≤ I 55 0 ∧ I 55 0 ≤ 40) (h1 : I 25 0 ≤ 80) (h2 : 0 ≤ I 77 0 ∧ I 77 0 ≤ 16) : Call PG (d + 5) 193 [(2, 0), (0, h), (0, a), (0, w)] (I, RF sp rt tt z.1, z) = if ((0 ≤ h ∧ h < I 55 0) ∧ (0 ≤ a ∧ a < I 25 0 ∧ I 33 a.toNat = I 56 h.toNat) ∧ 0 ≤ w ∧ w ≤ I 0 0) ∧ I 77 0 < 16 then some (some (0, I 77 0), (up2 (up2 (up2 (up2 I 78 (I 77 0).toNat h) 79 (I 77 0).toNat a) 80 (I 77 0).toNat w) 77 0 (I 77 0 + 1), RF sp rt tt z.1, z)) else some (some (0, -1), (I, RF sp rt tt z.1, z)) := by
  refine (K_193 ..).trans ?_
  by_cases gd : (0 ≤ h ∧ h < I 55 0) ∧ (0 ≤ a ∧ a < I 25 0 ∧ I 33 a.toNat = I 56 h.toNat) ∧ 0 ≤ w ∧ w ≤ I 0 0
  · have ee := S_194 (d := d + 3) (I := I) (sp := sp) (rt := rt) (tt := tt) (z := z) (h := h) (a := a) (w := w) (by omega)
    by_cases c0 : I 77 0 < 16
    · rw [if_pos c0] at ee
      repeat' (first | refine bd_t ee ?_ | refine ci_bt (by omega) ?_ | refine ci_bf (by omega) ?_ | refine ite_b01 ?_ | refine ci_b (fun _ => ?_) (fun _ => ?_) | refine ci_t (by omega) ?_ | refine ci_f (by omega) ?_ | refine ite_t (by omega) ?_ | refine ite_f (by omega) ?_ | refine bd_t (S_13) ?_ | refine bd_t (S_103 (by omega)) ?_ | refine bd_t (S_149) ?_ | refine bd_t (S_194 (by omega)) ?_ | refine (T_193_0 ..).trans ?_ | refine (T_193_8 ..).trans ?_ | refine (T_193_28 ..).trans ?_ | refine (T_193_40 ..).trans ?_ | refine (T_193_55 ..).trans ?_ | refine ci_c (fun _ => ?_) (fun _ => ?_))
      all_goals first | exact spec_f (by omega) rfl | (refine spec_t (by omega) ?_; first | rfl | (simp (disch := omega) only [w32_of, Int.add_sub_cancel, up2_ne]; done)) | (refine spec_f (by omega) ?_; first | exact spec_f (by omega) rfl | (refine spec_t (by omega) ?_; first | rfl | (simp (disch := omega) only [w32_of, Int.add_sub_cancel, up2_ne]; done)))
    rw [if_neg c0] at ee
    repeat' (first | refine bd_t ee ?_ | refine ci_bt (by omega) ?_ | refine ci_bf (by omega) ?_ | refine ite_b01 ?_ | refine ci_b (fun _ => ?_) (fun _ => ?_) | refine ci_t (by omega) ?_ | refine ci_f (by omega) ?_ | refine ite_t (by omega) ?_ | refine ite_f (by omega) ?_ | refine bd_t (S_13) ?_ | refine bd_t (S_103 (by omega)) ?_ | refine bd_t (S_149) ?_ | refine bd_t (S_194 (by omega)) ?_ | refine (T_193_0 ..).trans ?_ | refine (T_193_8 ..).trans ?_ | refine (T_193_28 ..).trans ?_ | refine (T_193_40 ..).trans ?_ | refine (T_193_55 ..).trans ?_ | refine ci_c (fun _ => ?_) (fun _ => ?_))
    all_goals first | exact spec_f (by omega) rfl | (refine spec_t (by omega) ?_; first | rfl | (simp (disch := omega) only [w32_of, Int.add_sub_cancel, up2_ne]; done)) | (refine spec_f (by omega) ?_; first | exact spec_f (by omega) rfl | (refine spec_t (by omega) ?_; first | rfl | (simp (disch := omega) only [w32_of, Int.add_sub_cancel, up2_ne]; done)))
  · repeat' (first | refine ci_bt (by omega) ?_ | refine ci_bf (by omega) ?_ | refine ite_b01 ?_ | refine ci_b (fun _ => ?_) (fun _ => ?_) | refine ci_t (by omega) ?_ | refine ci_f (by omega) ?_ | refine ite_t (by omega) ?_ | refine ite_f (by omega) ?_ | refine bd_t (S_13) ?_ | refine bd_t (S_103 (by omega)) ?_ | refine bd_t (S_149) ?_ | refine bd_t (S_194 (by omega)) ?_ | refine (T_193_0 ..).trans ?_ | refine (T_193_8 ..).trans ?_ | refine (T_193_28 ..).trans ?_ | refine (T_193_40 ..).trans ?_ | refine (T_193_55 ..).trans ?_ | refine ci_c (fun _ => ?_) (fun _ => ?_))
    all_goals first | exact spec_f (by omega) rfl | (refine spec_t (by omega) ?_; first | rfl | (simp (disch := omega) only [w32_of, Int.add_sub_cancel, up2_ne]; done)) | (refine spec_f (by omega) ?_; first | exact spec_f (by omega) rfl | (refine spec_t (by omega) ?_; first | rfl | (simp (disch := omega) only [w32_of, Int.add_sub_cancel, up2_ne]; done)))
end O11
section O11b
variable {I : Nat → Nat → Int} {sp rt : Nat} {tt : Nat → Nat} {z : Zs}
theorem o_join (a e f b g h w : Int) (hh : InvS I) : OpR 140 306 [(0, a), (0, e), (0, f), (0, b), (0, g), (0, h), (0, w)] I sp rt tt z := by
  obtain ⟨hT, hP, hC, hW, hL, hI, hS⟩ := hh
  have s1 := hS.1
  by_cases c0 : I 45 3 < 30 ∧ (0 ≤ a ∧ a < I 45 0) ∧ (0 ≤ b ∧ b < I 45 0) ∧ ¬ a = b ∧ (-100000 ≤ e ∧ e ≤ 100000 ∧ -100000 ≤ f ∧ f ≤ 100000) ∧ (-100000 ≤ g ∧ g ≤ 100000 ∧ -100000 ≤ h ∧ h ≤ 100000) ∧ 0 ≤ w ∧ w ≤ 1000
  · refine ⟨I 45 3, _, _, (S_140 (by show 0 ≤ I 45 0 ∧ I 45 0 ≤ 15; first | omega | assumption) (by show 0 ≤ I 45 3 ∧ I 45 3 ≤ 30; first | omega | assumption)).trans (if_pos c0), (S_306 (by show 0 ≤ I 82 8 ∧ I 82 8 ≤ 15; first | omega | assumption) (by show 0 ≤ I 82 11 ∧ I 82 11 ≤ 30; first | omega | assumption)).trans ((if_pos (by show I 82 11 < 30 ∧ (0 ≤ a ∧ a < I 82 8) ∧ (0 ≤ b ∧ b < I 82 8) ∧ ¬ a = b ∧ (-100000 ≤ e ∧ e ≤ 100000 ∧ -100000 ≤ f ∧ f ≤ 100000) ∧ (-100000 ≤ g ∧ g ≤ 100000 ∧ -100000 ≤ h ∧ h ≤ 100000) ∧ 0 ≤ w ∧ w ≤ 1000; omega)).trans (eqv (by show I 82 11 = I 45 3; omega))), ⟨hT, hP, hC, hW, hL, hI, ?_⟩, ?_⟩
    · unfold GS
      repeat' apply And.intro
      · first | exact hS.1.1.1 | (have q := hS.1.1.1; have q0 := hS.1; simp only [up2_def]; grind)
      · first | exact hS.1.1.2.1 | (have q := hS.1.1.2.1; have q0 := hS.1; simp only [up2_def]; grind)
      · first | exact hS.1.1.2.2 | (have q := hS.1.1.2.2; have q0 := hS.1; simp only [up2_def]; grind)
      · first | exact hS.1.2.1.1 | (have q := hS.1.2.1.1; have q0 := hS.1; simp only [up2_def]; grind)
      · first | exact hS.1.2.1.2.1 | (have q := hS.1.2.1.2.1; have q0 := hS.1; simp only [up2_def]; grind)
      · first | exact hS.1.2.1.2.2 | (have q := hS.1.2.1.2.2; have q0 := hS.1; simp only [up2_def]; grind)
      · first | exact hS.1.2.2.1.1 | (have q := hS.1.2.2.1.1; have q0 := hS.1; simp only [up2_def]; grind)
      · first | exact hS.1.2.2.1.2.1 | (have q := hS.1.2.2.1.2.1; have q0 := hS.1; simp only [up2_def]; grind)
      · first | exact hS.1.2.2.1.2.2 | (have q := hS.1.2.2.1.2.2; have q0 := hS.1; simp only [up2_def]; grind)
      · first | exact hS.1.2.2.2.1 | (have q := hS.1.2.2.2.1; have q0 := hS.1; simp only [up2_def]; grind)
      · first | exact hS.1.2.2.2.2.1 | (have q := hS.1.2.2.2.2.1; have q0 := hS.1; simp only [up2_def]; grind)
      · first | exact hS.1.2.2.2.2.2 | (have q := hS.1.2.2.2.2.2; have q0 := hS.1; simp only [up2_def]; grind)
      · first | exact hS.2.1.1 | (have q := hS.2.1.1; have q0 := hS.1; simp only [up2_def]; grind)
      · first | exact hS.2.1.2.1 | (have q := hS.2.1.2.1; have q0 := hS.1; simp only [up2_def]; grind)
      · first | exact hS.2.1.2.2.1 | (have q := hS.2.1.2.2.1; have q0 := hS.1; simp only [up2_def]; grind)
      · first | exact hS.2.1.2.2.2.1 | (have q := hS.2.1.2.2.2.1; have q0 := hS.1; simp only [up2_def]; grind)
      · first | exact hS.2.1.2.2.2.2.1 | (have q := hS.2.1.2.2.2.2.1; have q0 := hS.1; simp only [up2_def]; grind)
      · first | exact hS.2.1.2.2.2.2.2 | (have q := hS.2.1.2.2.2.2.2; have q0 := hS.1; simp only [up2_def]; grind)
      · first | exact hS.2.2.1 | (have q := hS.2.2.1; have q0 := hS.1; simp only [up2_def]; grind)
      · first | exact hS.2.2.2.1 | (have q := hS.2.2.2.1; have q0 := hS.1; simp only [up2_def]; grind)
      · first | exact hS.2.2.2.2.1 | (have q := hS.2.2.2.2.1; have q0 := hS.1; simp only [up2_def]; grind)
      · first | exact hS.2.2.2.2.2 | (have q := hS.2.2.2.2.2; have q0 := hS.1; simp only [up2_def]; grind)
    · repeat (first | rfl | refine (rs_up (by rfl)).trans ?_)
  refine ⟨-1, _, _, (S_140 (by show 0 ≤ I 45 0 ∧ I 45 0 ≤ 15; first | omega | assumption) (by show 0 ≤ I 45 3 ∧ I 45 3 ≤ 30; first | omega | assumption)).trans (if_neg c0), (S_306 (by show 0 ≤ I 82 8 ∧ I 82 8 ≤ 15; first | omega | assumption) (by show 0 ≤ I 82 11 ∧ I 82 11 ≤ 30; first | omega | assumption)).trans (if_neg (by show ¬ (I 82 11 < 30 ∧ (0 ≤ a ∧ a < I 82 8) ∧ (0 ≤ b ∧ b < I 82 8) ∧ ¬ a = b ∧ (-100000 ≤ e ∧ e ≤ 100000 ∧ -100000 ≤ f ∧ f ≤ 100000) ∧ (-100000 ≤ g ∧ g ≤ 100000 ∧ -100000 ≤ h ∧ h ≤ 100000) ∧ 0 ≤ w ∧ w ≤ 1000); omega)), ⟨hT, hP, hC, hW, hL, hI, hS⟩, rfl⟩
theorem o_seen (h a w : Int) (hh : InvS I) (hn : I 82 6 = I 25 0 ∧ 0 ≤ I 25 0 ∧ I 25 0 ≤ 80) (hp : ∀ j, I 114 j = I 33 j) : OpR 193 333 [(0, h), (0, a), (0, w)] I sp rt tt z := by
  obtain ⟨hT, hP, hC, hW, hL, hI, hS⟩ := hh
  have c1 := hC.1
  have i1 := hI.1
  have t1 := hT.1
  have a1 := hC.2.1.1 h.toNat
  have a2 := hp a.toNat
  by_cases c0 : ((0 ≤ h ∧ h < I 55 0) ∧ (0 ≤ a ∧ a < I 25 0 ∧ I 33 a.toNat = I 56 h.toNat) ∧ 0 ≤ w ∧ w ≤ I 0 0) ∧ I 77 0 < 16
  · refine ⟨I 77 0, _, _, (S_193 (by show 0 ≤ I 55 0 ∧ I 55 0 ≤ 40; first | omega | assumption) (by show I 25 0 ≤ 80; first | omega | assumption) (by show 0 ≤ I 77 0 ∧ I 77 0 ≤ 16; first | omega | assumption)).trans (if_pos c0), (S_333 (by show 0 ≤ I 82 4 ∧ I 82 4 ≤ 40; first | omega | assumption) (by show 0 ≤ I 82 6 ∧ I 82 6 ≤ 80; first | omega | assumption) (by show 0 ≤ I 82 18 ∧ I 82 18 ≤ 16; first | omega | assumption)).trans ((if_pos (by show I 82 18 < 16 ∧ (0 ≤ h ∧ h < I 82 4) ∧ (0 ≤ a ∧ a < I 82 6) ∧ I 114 a.toNat = I 91 h.toNat ∧ 0 ≤ w ∧ w ≤ I 82 2; omega)).trans (eqv (by show I 82 18 = I 77 0; omega))), ⟨hT, hP, hC, hW, hL, ?_, hS⟩, ?_⟩
    · unfold GI
      repeat' apply And.intro
      · first | exact hI.1.1 | (have q := hI.1.1; have q0 := hI.1; have q3 := hT.1; simp only [up2_def]; grind)
      · first | exact hI.1.2.1 | (have q := hI.1.2.1; have q0 := hI.1; have q3 := hT.1; simp only [up2_def]; grind)
      · first | exact hI.1.2.2 | (have q := hI.1.2.2; have q0 := hI.1; have q3 := hT.1; simp only [up2_def]; grind)
      · first | exact hI.2.1.1 | (have q := hI.2.1.1; have q0 := hI.1; have q3 := hT.1; simp only [up2_def]; grind)
      · first | exact hI.2.1.2.1 | (have q := hI.2.1.2.1; have q0 := hI.1; have q3 := hT.1; simp only [up2_def]; grind)
      · first | exact hI.2.1.2.2 | (have q := hI.2.1.2.2; have q0 := hI.1; have q3 := hT.1; simp only [up2_def]; grind)
      · first | exact hI.2.2.1.1 | (have q := hI.2.2.1.1; have q0 := hI.1; have q3 := hT.1; simp only [up2_def]; grind)
      · first | exact hI.2.2.1.2.1 | (have q := hI.2.2.1.2.1; have q0 := hI.1; have q3 := hT.1; simp only [up2_def]; grind)
      · first | exact hI.2.2.1.2.2 | (have q := hI.2.2.1.2.2; have q0 := hI.1; have q3 := hT.1; simp only [up2_def]; grind)
      · first | exact hI.2.2.2 | (have q := hI.2.2.2; have q0 := hI.1; have q3 := hT.1; simp only [up2_def]; grind)
    · repeat (first | rfl | refine (rs_up (by rfl)).trans ?_)
  refine ⟨-1, _, _, (S_193 (by show 0 ≤ I 55 0 ∧ I 55 0 ≤ 40; first | omega | assumption) (by show I 25 0 ≤ 80; first | omega | assumption) (by show 0 ≤ I 77 0 ∧ I 77 0 ≤ 16; first | omega | assumption)).trans (if_neg c0), (S_333 (by show 0 ≤ I 82 4 ∧ I 82 4 ≤ 40; first | omega | assumption) (by show 0 ≤ I 82 6 ∧ I 82 6 ≤ 80; first | omega | assumption) (by show 0 ≤ I 82 18 ∧ I 82 18 ≤ 16; first | omega | assumption)).trans (if_neg (by show ¬ (I 82 18 < 16 ∧ (0 ≤ h ∧ h < I 82 4) ∧ (0 ≤ a ∧ a < I 82 6) ∧ I 114 a.toNat = I 91 h.toNat ∧ 0 ≤ w ∧ w ≤ I 82 2); omega)), ⟨hT, hP, hC, hW, hL, hI, hS⟩, rfl⟩
end O11b

