/-! calls that neither loop nor rest on nets, air and laws -/
section O1
variable {I : Nat → Nat → Int} {sp rt : Nat} {tt : Nat → Nat} {z : Zs}
theorem S_12 {d : Nat} {n : Int} : Call PG (d + 2) 12 [(2, 0), (0, n)] (I, RF sp rt tt z.1, z) = if I 0 0 ≤ n ∧ n ≤ 5000000 then some (some (0, 1), (up2 I 0 0 n, RF sp rt tt z.1, z)) else some (some (0, 0), (I, RF sp rt tt z.1, z)) := by
  refine (K_12 ..).trans ?_
  repeat' (first | refine ci_bt (by omega) ?_ | refine ci_bf (by omega) ?_ | refine ite_b01 ?_ | refine ci_b (fun _ => ?_) (fun _ => ?_) | refine ci_t (by omega) ?_ | refine ci_f (by omega) ?_ | refine ite_t (by omega) ?_ | refine ite_f (by omega) ?_ | refine bd_t (S_13) ?_ | refine (T_12_0 ..).trans ?_ | refine (T_12_10 ..).trans ?_ | refine ci_c (fun _ => ?_) (fun _ => ?_))
  all_goals first | exact spec_f (by omega) rfl | (refine spec_t (by omega) ?_; first | rfl | (simp (disch := omega) only [w32_of, Int.add_sub_cancel, up2_ne]; done)) | (refine spec_f (by omega) ?_; first | exact spec_f (by omega) rfl | (refine spec_t (by omega) ?_; first | rfl | (simp (disch := omega) only [w32_of, Int.add_sub_cancel, up2_ne]; done)))
theorem o_now (n : Int) (h : InvS I) : OpR 12 208 [(0, n)] I sp rt tt z := by
  obtain ⟨hT, hP, hC, hW, hL, hI, hS⟩ := h
  have t1 := hT.1
  by_cases c : I 0 0 ≤ n ∧ n ≤ 5000000
  · refine ⟨1, _, _, S_12.trans (if_pos c), S_208.trans (if_pos (by show I 82 2 ≤ n ∧ n ≤ 5000000; omega)), ⟨?_, hP, hC, ?_, hL, hI, hS⟩, ?_⟩
    · refine ⟨?_, hT.2.1, hT.2.2⟩
      simp only [up2_def]
      simp
      omega
    · obtain ⟨w1, w2, w3, w4, w5, w6, w7⟩ := hW
      refine ⟨w1, w2, w3, w4, w5, ?_, w7⟩
      intro w h hw hh
      have := w6 w h hw hh
      refine ⟨⟨this.1.1, ?_⟩, this.2⟩
      simp only [up2_def]
      simp
      omega
    · repeat (first | rfl | refine (rs_up (by rfl)).trans ?_)
  · refine ⟨0, _, _, S_12.trans (if_neg c), S_208.trans (if_neg (by omega)), ⟨hT, hP, hC, hW, hL, hI, hS⟩, rfl⟩
theorem S_16 {d : Nat} {p w n : Int} (h0 : 0 ≤ I 2 6 ∧ I 2 6 ≤ 12) : Call PG (d + 3) 16 [(2, 0), (0, p), (0, w), (0, n)] (I, RF sp rt tt z.1, z) = if (0 ≤ p ∧ p < I 2 6) ∧ w = 0 ∧ 0 ≤ n ∧ n ≤ 100 then some (some (0, 1), (up2 I 5 p.toNat n, RF sp rt tt z.1, z)) else if (0 ≤ p ∧ p < I 2 6) ∧ w = 1 ∧ 0 ≤ n ∧ n ≤ 2000 then some (some (0, 1), (up2 I 6 p.toNat n, RF sp rt tt z.1, z)) else some (some (0, 0), (I, RF sp rt tt z.1, z)) := by
  refine (K_16 ..).trans ?_
  refine (T_16_0 ..).trans ?_
  have e := S_17 (d := d) (I := I) (sp := sp) (rt := rt) (tt := tt) (z := z) (p := p) (w := w) (n := n) h0
  by_cases c : (0 ≤ p ∧ p < I 2 6) ∧ w = 0 ∧ 0 ≤ n ∧ n ≤ 100
  · rw [if_pos c] at e ⊢
    refine bd_t e ?_
    repeat' (first | refine ci_bt (by omega) ?_ | refine ci_bf (by omega) ?_ | refine ite_b01 ?_ | refine ci_b (fun _ => ?_) (fun _ => ?_) | refine ci_t (by omega) ?_ | refine ci_f (by omega) ?_ | refine ite_t (by omega) ?_ | refine ite_f (by omega) ?_ | refine bd_t (S_17 (by omega)) ?_ | refine (T_16_0 ..).trans ?_ | refine (T_16_10 ..).trans ?_ | refine ci_c (fun _ => ?_) (fun _ => ?_))
    all_goals rfl
  · rw [if_neg c] at e ⊢
    by_cases c2 : (0 ≤ p ∧ p < I 2 6) ∧ w = 1 ∧ 0 ≤ n ∧ n ≤ 2000
    · rw [if_pos c2] at e ⊢
      refine bd_t e ?_
      repeat' (first | refine ci_bt (by omega) ?_ | refine ci_bf (by omega) ?_ | refine ite_b01 ?_ | refine ci_b (fun _ => ?_) (fun _ => ?_) | refine ci_t (by omega) ?_ | refine ci_f (by omega) ?_ | refine ite_t (by omega) ?_ | refine ite_f (by omega) ?_ | refine bd_t (S_17 (by omega)) ?_ | refine (T_16_0 ..).trans ?_ | refine (T_16_10 ..).trans ?_ | refine ci_c (fun _ => ?_) (fun _ => ?_))
      all_goals rfl
    · rw [if_neg c2] at e ⊢
      refine bd_t e ?_
      repeat' (first | refine ci_bt (by omega) ?_ | refine ci_bf (by omega) ?_ | refine ite_b01 ?_ | refine ci_b (fun _ => ?_) (fun _ => ?_) | refine ci_t (by omega) ?_ | refine ci_f (by omega) ?_ | refine ite_t (by omega) ?_ | refine ite_f (by omega) ?_ | refine bd_t (S_17 (by omega)) ?_ | refine (T_16_0 ..).trans ?_ | refine (T_16_10 ..).trans ?_ | refine ci_c (fun _ => ?_) (fun _ => ?_))
      all_goals rfl
theorem o_told (p w n : Int) (h : InvS I) : OpR 16 211 [(0, p), (0, w), (0, n)] I sp rt tt z := by
  obtain ⟨hT, hP, hC, hW, hL, hI, hS⟩ := h
  have p1 := hP.1
  by_cases c : (0 ≤ p ∧ p < I 2 6) ∧ w = 0 ∧ 0 ≤ n ∧ n ≤ 100
  · refine ⟨1, _, _, (S_16 hP.1.2).trans (if_pos c), (S_211 (by show 0 ≤ I 82 3 ∧ I 82 3 ≤ 12; omega)).trans (if_pos (by show (0 ≤ p ∧ p < I 82 3) ∧ w = 0 ∧ 0 ≤ n ∧ n ≤ 100; omega)), ⟨hT, ?_, hC, hW, hL, hI, hS⟩, ?_⟩
    · unfold GP at hP ⊢
      simp only [up2_def]
      grind
    · repeat (first | rfl | refine (rs_up (by rfl)).trans ?_)
  · by_cases c2 : (0 ≤ p ∧ p < I 2 6) ∧ w = 1 ∧ 0 ≤ n ∧ n ≤ 2000
    · refine ⟨1, _, _, (S_16 hP.1.2).trans ((if_neg c).trans (if_pos c2)), (S_211 (by show 0 ≤ I 82 3 ∧ I 82 3 ≤ 12; omega)).trans ((if_neg (by show ¬ ((0 ≤ p ∧ p < I 82 3) ∧ w = 0 ∧ 0 ≤ n ∧ n ≤ 100); omega)).trans (if_pos (by show (0 ≤ p ∧ p < I 82 3) ∧ w = 1 ∧ 0 ≤ n ∧ n ≤ 2000; omega))), ⟨hT, ?_, hC, hW, hL, hI, hS⟩, ?_⟩
      · unfold GP at hP ⊢
        simp only [up2_def]
        grind
      · repeat (first | rfl | refine (rs_up (by rfl)).trans ?_)
    · refine ⟨0, _, _, (S_16 hP.1.2).trans ((if_neg c).trans (if_neg c2)), (S_211 (by omega)).trans ((if_neg (by omega)).trans (if_neg (by omega))), ⟨hT, hP, hC, hW, hL, hI, hS⟩, rfl⟩
end O1

