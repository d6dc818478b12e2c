/-! more such calls: the class's own faces -/
section O2
variable {d : Nat} {I : Nat → Nat → Int} {sp rt : Nat} {tt : Nat → Nat} {z : Zs}
theorem S_14 {s e g m : Int} (h0 : 0 ≤ I 2 6 ∧ I 2 6 ≤ 12) : Call PG (d + 3) 14 [(2, 0), (0, s), (0, e), (0, g), (0, m)] (I, RF sp rt tt z.1, z) = if I 2 6 < 12 ∧ (0 ≤ s ∧ s ≤ 7) ∧ (0 ≤ e ∧ e ≤ 2000) ∧ (0 ≤ g ∧ g ≤ 100) ∧ 0 ≤ m ∧ m ≤ 2000 then some (some (0, I 2 6), (up2 (up2 (up2 (up2 (up2 I 3 (I 2 6).toNat s) 4 (I 2 6).toNat e) 5 (I 2 6).toNat g) 6 (I 2 6).toNat m) 2 6 (I 2 6 + 1), RF sp rt tt z.1, z)) else some (some (0, -1), (I, RF sp rt tt z.1, z)) := by
  refine (K_14 ..).trans ?_
  have ee := S_15 (d := d + 0) (I := I) (sp := sp) (rt := rt) (tt := tt) (z := z) (s := s) (e := e) (g := g) (m := m) (by omega)
  by_cases c0 : I 2 6 < 12 ∧ (0 ≤ s ∧ s ≤ 7) ∧ (0 ≤ e ∧ e ≤ 2000) ∧ (0 ≤ g ∧ g ≤ 100) ∧ 0 ≤ m ∧ m ≤ 2000
  · rw [if_pos c0] at ee
    repeat' (first | refine bd_t ee ?_ | refine ci_bt (by omega) ?_ | refine ci_bf (by omega) ?_ | refine ite_b01 ?_ | refine ci_b (fun _ => ?_) (fun _ => ?_) | refine ci_t (by omega) ?_ | refine ci_f (by omega) ?_ | refine ite_t (by omega) ?_ | refine ite_f (by omega) ?_ | refine bd_t (S_15 (by omega)) ?_ | refine (T_14_0 ..).trans ?_ | refine (T_14_12 ..).trans ?_ | refine ci_c (fun _ => ?_) (fun _ => ?_))
    all_goals first | exact spec_f (by omega) rfl | (refine spec_t (by omega) ?_; first | rfl | (simp (disch := omega) only [w32_of, Int.add_sub_cancel, up2_ne]; done)) | (refine spec_f (by omega) ?_; first | exact spec_f (by omega) rfl | (refine spec_t (by omega) ?_; first | rfl | (simp (disch := omega) only [w32_of, Int.add_sub_cancel, up2_ne]; done)))
  rw [if_neg c0] at ee
  repeat' (first | refine bd_t ee ?_ | refine ci_bt (by omega) ?_ | refine ci_bf (by omega) ?_ | refine ite_b01 ?_ | refine ci_b (fun _ => ?_) (fun _ => ?_) | refine ci_t (by omega) ?_ | refine ci_f (by omega) ?_ | refine ite_t (by omega) ?_ | refine ite_f (by omega) ?_ | refine bd_t (S_15 (by omega)) ?_ | refine (T_14_0 ..).trans ?_ | refine (T_14_12 ..).trans ?_ | refine ci_c (fun _ => ?_) (fun _ => ?_))
  all_goals first | exact spec_f (by omega) rfl | (refine spec_t (by omega) ?_; first | rfl | (simp (disch := omega) only [w32_of, Int.add_sub_cancel, up2_ne]; done)) | (refine spec_f (by omega) ?_; first | exact spec_f (by omega) rfl | (refine spec_t (by omega) ?_; first | rfl | (simp (disch := omega) only [w32_of, Int.add_sub_cancel, up2_ne]; done)))
theorem S_155 {p n : Int} (h0 : 0 ≤ I 2 6 ∧ I 2 6 ≤ 12) : Call PG (d + 3) 155 [(2, 0), (0, p), (0, n)] (I, RF sp rt tt z.1, z) = if (0 ≤ p ∧ p < I 2 6) ∧ 0 ≤ n ∧ n ≤ 2000 then some (some (0, 1), (up2 I 7 (p).toNat n, RF sp rt tt z.1, z)) else some (some (0, 0), (I, RF sp rt tt z.1, z)) := by
  refine (K_155 ..).trans ?_
  have ee := S_156 (d := d + 0) (I := I) (sp := sp) (rt := rt) (tt := tt) (z := z) (p := p) (n := n) (by omega)
  by_cases c0 : (0 ≤ p ∧ p < I 2 6) ∧ 0 ≤ n ∧ n ≤ 2000
  · rw [if_pos c0] at ee
    repeat' (first | refine bd_t ee ?_ | refine ci_bt (by omega) ?_ | refine ci_bf (by omega) ?_ | refine ite_b01 ?_ | refine ci_b (fun _ => ?_) (fun _ => ?_) | refine ci_t (by omega) ?_ | refine ci_f (by omega) ?_ | refine ite_t (by omega) ?_ | refine ite_f (by omega) ?_ | refine bd_t (S_156 (by omega)) ?_ | refine (T_155_0 ..).trans ?_ | refine (T_155_9 ..).trans ?_ | refine ci_c (fun _ => ?_) (fun _ => ?_))
    all_goals first | exact spec_f (by omega) rfl | (refine spec_t (by omega) ?_; first | rfl | (simp (disch := omega) only [w32_of, Int.add_sub_cancel, up2_ne]; done)) | (refine spec_f (by omega) ?_; first | exact spec_f (by omega) rfl | (refine spec_t (by omega) ?_; first | rfl | (simp (disch := omega) only [w32_of, Int.add_sub_cancel, up2_ne]; done)))
  rw [if_neg c0] at ee
  repeat' (first | refine bd_t ee ?_ | refine ci_bt (by omega) ?_ | refine ci_bf (by omega) ?_ | refine ite_b01 ?_ | refine ci_b (fun _ => ?_) (fun _ => ?_) | refine ci_t (by omega) ?_ | refine ci_f (by omega) ?_ | refine ite_t (by omega) ?_ | refine ite_f (by omega) ?_ | refine bd_t (S_156 (by omega)) ?_ | refine (T_155_0 ..).trans ?_ | refine (T_155_9 ..).trans ?_ | refine ci_c (fun _ => ?_) (fun _ => ?_))
  all_goals first | exact spec_f (by omega) rfl | (refine spec_t (by omega) ?_; first | rfl | (simp (disch := omega) only [w32_of, Int.add_sub_cancel, up2_ne]; done)) | (refine spec_f (by omega) ?_; first | exact spec_f (by omega) rfl | (refine spec_t (by omega) ?_; first | rfl | (simp (disch := omega) only [w32_of, Int.add_sub_cancel, up2_ne]; done)))
theorem S_177 {p : Int} (h0 : 0 ≤ I 2 6 ∧ I 2 6 ≤ 12) (h1 : 0 ≤ I 2 7 ∧ I 2 7 ≤ 200) (h2 : 0 ≤ I 8 p.toNat ∧ I 8 p.toNat ≤ 200) : Call PG (d + 3) 177 [(2, 0), (0, p)] (I, RF sp rt tt z.1, z) = if (0 ≤ p ∧ p < I 2 6) ∧ I 2 7 < 200 then some (some (0, 1), (up2 (up2 I 8 (p).toNat (I 8 p.toNat + 1)) 2 7 (I 2 7 + 1), RF sp rt tt z.1, z)) else some (some (0, 0), (I, RF sp rt tt z.1, z)) := by
  refine (K_177 ..).trans ?_
  have ee := S_178 (d := d + 0) (I := I) (sp := sp) (rt := rt) (tt := tt) (z := z) (p := p) (by omega) (by omega) (by omega)
  by_cases c0 : (0 ≤ p ∧ p < I 2 6) ∧ I 2 7 < 200
  · rw [if_pos c0] at ee
    repeat' (first | refine bd_t ee ?_ | refine ci_bt (by omega) ?_ | refine ci_bf (by omega) ?_ | refine ite_b01 ?_ | refine ci_b (fun _ => ?_) (fun _ => ?_) | refine ci_t (by omega) ?_ | refine ci_f (by omega) ?_ | refine ite_t (by omega) ?_ | refine ite_f (by omega) ?_ | refine bd_t (S_178 (by omega) (by omega) (by omega)) ?_ | refine (T_177_0 ..).trans ?_ | refine (T_177_8 ..).trans ?_ | refine ci_c (fun _ => ?_) (fun _ => ?_))
    all_goals first | exact spec_f (by omega) rfl | (refine spec_t (by omega) ?_; first | rfl | (simp (disch := omega) only [w32_of, Int.add_sub_cancel, up2_ne]; done)) | (refine spec_f (by omega) ?_; first | exact spec_f (by omega) rfl | (refine spec_t (by omega) ?_; first | rfl | (simp (disch := omega) only [w32_of, Int.add_sub_cancel, up2_ne]; done)))
  rw [if_neg c0] at ee
  repeat' (first | refine bd_t ee ?_ | refine ci_bt (by omega) ?_ | refine ci_bf (by omega) ?_ | refine ite_b01 ?_ | refine ci_b (fun _ => ?_) (fun _ => ?_) | refine ci_t (by omega) ?_ | refine ci_f (by omega) ?_ | refine ite_t (by omega) ?_ | refine ite_f (by omega) ?_ | refine bd_t (S_178 (by omega) (by omega) (by omega)) ?_ | refine (T_177_0 ..).trans ?_ | refine (T_177_8 ..).trans ?_ | refine ci_c (fun _ => ?_) (fun _ => ?_))
  all_goals first | exact spec_f (by omega) rfl | (refine spec_t (by omega) ?_; first | rfl | (simp (disch := omega) only [w32_of, Int.add_sub_cancel, up2_ne]; done)) | (refine spec_f (by omega) ?_; first | exact spec_f (by omega) rfl | (refine spec_t (by omega) ?_; first | rfl | (simp (disch := omega) only [w32_of, Int.add_sub_cancel, up2_ne]; done)))
theorem S_19 {p e : Int} (h0 : 0 ≤ I 55 0 ∧ I 55 0 ≤ 40) : Call PG (d + 3) 19 [(2, 0), (0, p), (0, e)] (I, RF sp rt tt z.1, z) = if (0 ≤ p ∧ p < I 2 6) ∧ I 55 0 < 40 ∧ 0 ≤ e ∧ e ≤ 4 then some (some (0, I 55 0), (up2 (up2 (up2 (up2 I 56 (I 55 0).toNat p) 57 (I 55 0).toNat e) 58 (I 55 0).toNat (-1)) 55 0 (I 55 0 + 1), RF sp rt tt z.1, z)) else some (some (0, -1), (I, RF sp rt tt z.1, z)) := by
  refine (K_19 ..).trans ?_
  by_cases gd : 0 ≤ p ∧ p < I 2 6
  · have ee := S_20 (d := d + 0) (I := I) (sp := sp) (rt := rt) (tt := tt) (z := z) (p := p) (e := e) (by omega)
    by_cases c0 : I 55 0 < 40 ∧ 0 ≤ e ∧ e ≤ 4
    · rw [if_pos c0] at ee
      repeat' (first | refine bd_t ee ?_ | refine ci_bt (by omega) ?_ | refine ci_bf (by omega) ?_ | refine ite_b01 ?_ | refine ci_b (fun _ => ?_) (fun _ => ?_) | refine ci_t (by omega) ?_ | refine ci_f (by omega) ?_ | refine ite_t (by omega) ?_ | refine ite_f (by omega) ?_ | refine bd_t (S_18) ?_ | refine bd_t (S_20 (by omega)) ?_ | refine (T_19_0 ..).trans ?_ | refine (T_19_8 ..).trans ?_ | refine (T_19_20 ..).trans ?_ | refine ci_c (fun _ => ?_) (fun _ => ?_))
      all_goals first | exact spec_f (by omega) rfl | (refine spec_t (by omega) ?_; first | rfl | (simp (disch := omega) only [w32_of, Int.add_sub_cancel, up2_ne]; done)) | (refine spec_f (by omega) ?_; first | exact spec_f (by omega) rfl | (refine spec_t (by omega) ?_; first | rfl | (simp (disch := omega) only [w32_of, Int.add_sub_cancel, up2_ne]; done)))
    rw [if_neg c0] at ee
    repeat' (first | refine bd_t ee ?_ | refine ci_bt (by omega) ?_ | refine ci_bf (by omega) ?_ | refine ite_b01 ?_ | refine ci_b (fun _ => ?_) (fun _ => ?_) | refine ci_t (by omega) ?_ | refine ci_f (by omega) ?_ | refine ite_t (by omega) ?_ | refine ite_f (by omega) ?_ | refine bd_t (S_18) ?_ | refine bd_t (S_20 (by omega)) ?_ | refine (T_19_0 ..).trans ?_ | refine (T_19_8 ..).trans ?_ | refine (T_19_20 ..).trans ?_ | refine ci_c (fun _ => ?_) (fun _ => ?_))
    all_goals first | exact spec_f (by omega) rfl | (refine spec_t (by omega) ?_; first | rfl | (simp (disch := omega) only [w32_of, Int.add_sub_cancel, up2_ne]; done)) | (refine spec_f (by omega) ?_; first | exact spec_f (by omega) rfl | (refine spec_t (by omega) ?_; first | rfl | (simp (disch := omega) only [w32_of, Int.add_sub_cancel, up2_ne]; done)))
  · repeat' (first | refine ci_bt (by omega) ?_ | refine ci_bf (by omega) ?_ | refine ite_b01 ?_ | refine ci_b (fun _ => ?_) (fun _ => ?_) | refine ci_t (by omega) ?_ | refine ci_f (by omega) ?_ | refine ite_t (by omega) ?_ | refine ite_f (by omega) ?_ | refine bd_t (S_18) ?_ | refine bd_t (S_20 (by omega)) ?_ | refine (T_19_0 ..).trans ?_ | refine (T_19_8 ..).trans ?_ | refine (T_19_20 ..).trans ?_ | refine ci_c (fun _ => ?_) (fun _ => ?_))
    all_goals first | exact spec_f (by omega) rfl | (refine spec_t (by omega) ?_; first | rfl | (simp (disch := omega) only [w32_of, Int.add_sub_cancel, up2_ne]; done)) | (refine spec_f (by omega) ?_; first | exact spec_f (by omega) rfl | (refine spec_t (by omega) ?_; first | rfl | (simp (disch := omega) only [w32_of, Int.add_sub_cancel, up2_ne]; done)))
theorem S_121 {e t x y : Int} (h0 : 0 ≤ I 45 0 ∧ I 45 0 ≤ 15) : Call PG (d + 4) 121 [(2, 0), (0, e), (0, t), (0, x), (0, y)] (I, RF sp rt tt z.1, z) = if I 45 0 < 15 ∧ (0 ≤ e ∧ e ≤ 1000) ∧ (0 ≤ t ∧ t ≤ 3) ∧ -100000 ≤ x ∧ x ≤ 100000 ∧ -100000 ≤ y ∧ y ≤ 100000 then some (some (0, I 45 0), (up2 (up2 (up2 (up2 (up2 I 46 (I 45 0).toNat e) 47 (I 45 0).toNat t) 48 (I 45 0).toNat x) 49 (I 45 0).toNat y) 45 0 (I 45 0 + 1), RF sp rt tt z.1, z)) else some (some (0, -1), (I, RF sp rt tt z.1, z)) := by
  refine (K_121 ..).trans ?_
  have ee := S_122 (d := d + 0) (I := I) (sp := sp) (rt := rt) (tt := tt) (z := z) (e := e) (t := t) (x := x) (y := y) (by omega)
  by_cases c0 : I 45 0 < 15 ∧ (0 ≤ e ∧ e ≤ 1000) ∧ (0 ≤ t ∧ t ≤ 3) ∧ -100000 ≤ x ∧ x ≤ 100000 ∧ -100000 ≤ y ∧ y ≤ 100000
  · rw [if_pos c0] at ee
    repeat' (first | refine bd_t ee ?_ | refine ci_bt (by omega) ?_ | refine ci_bf (by omega) ?_ | refine ite_b01 ?_ | refine ci_b (fun _ => ?_) (fun _ => ?_) | refine ci_t (by omega) ?_ | refine ci_f (by omega) ?_ | refine ite_t (by omega) ?_ | refine ite_f (by omega) ?_ | refine bd_t (S_122 (by omega)) ?_ | refine (T_121_0 ..).trans ?_ | refine (T_121_12 ..).trans ?_ | refine ci_c (fun _ => ?_) (fun _ => ?_))
    all_goals first | exact spec_f (by omega) rfl | (refine spec_t (by omega) ?_; first | rfl | (simp (disch := omega) only [w32_of, Int.add_sub_cancel, up2_ne]; done)) | (refine spec_f (by omega) ?_; first | exact spec_f (by omega) rfl | (refine spec_t (by omega) ?_; first | rfl | (simp (disch := omega) only [w32_of, Int.add_sub_cancel, up2_ne]; done)))
  rw [if_neg c0] at ee
  repeat' (first | refine bd_t ee ?_ | refine ci_bt (by omega) ?_ | refine ci_bf (by omega) ?_ | refine ite_b01 ?_ | refine ci_b (fun _ => ?_) (fun _ => ?_) | refine ci_t (by omega) ?_ | refine ci_f (by omega) ?_ | refine ite_t (by omega) ?_ | refine ite_f (by omega) ?_ | refine bd_t (S_122 (by omega)) ?_ | refine (T_121_0 ..).trans ?_ | refine (T_121_12 ..).trans ?_ | refine ci_c (fun _ => ?_) (fun _ => ?_))
  all_goals first | exact spec_f (by omega) rfl | (refine spec_t (by omega) ?_; first | rfl | (simp (disch := omega) only [w32_of, Int.add_sub_cancel, up2_ne]; done)) | (refine spec_f (by omega) ?_; first | exact spec_f (by omega) rfl | (refine spec_t (by omega) ?_; first | rfl | (simp (disch := omega) only [w32_of, Int.add_sub_cancel, up2_ne]; done)))
theorem S_124 {k x y : Int} (h0 : 0 ≤ I 45 0 ∧ I 45 0 ≤ 15) : Call PG (d + 5) 124 [(2, 0), (0, k), (0, x), (0, y)] (I, RF sp rt tt z.1, z) = if (0 ≤ k ∧ k < I 45 0) ∧ -100000 ≤ x ∧ x ≤ 100000 ∧ -100000 ≤ y ∧ y ≤ 100000 then some (some (0, 1), (up2 (up2 I 48 (k).toNat x) 49 (k).toNat y, RF sp rt tt z.1, z)) else some (some (0, 0), (I, RF sp rt tt z.1, z)) := by
  refine (K_124 ..).trans ?_
  have ee := S_125 (d := d + 0) (I := I) (sp := sp) (rt := rt) (tt := tt) (z := z) (k := k) (x := x) (y := y) (by omega)
  by_cases c0 : (0 ≤ k ∧ k < I 45 0) ∧ -100000 ≤ x ∧ x ≤ 100000 ∧ -100000 ≤ y ∧ y ≤ 100000
  · rw [if_pos c0] at ee
    repeat' (first | refine bd_t ee ?_ | refine ci_bt (by omega) ?_ | refine ci_bf (by omega) ?_ | refine ite_b01 ?_ | refine ci_b (fun _ => ?_) (fun _ => ?_) | refine ci_t (by omega) ?_ | refine ci_f (by omega) ?_ | refine ite_t (by omega) ?_ | refine ite_f (by omega) ?_ | refine bd_t (S_125 (by omega)) ?_ | refine (T_124_0 ..).trans ?_ | refine (T_124_10 ..).trans ?_ | refine ci_c (fun _ => ?_) (fun _ => ?_))
    all_goals first | exact spec_f (by omega) rfl | (refine spec_t (by omega) ?_; first | rfl | (simp (disch := omega) only [w32_of, Int.add_sub_cancel, up2_ne]; done)) | (refine spec_f (by omega) ?_; first | exact spec_f (by omega) rfl | (refine spec_t (by omega) ?_; first | rfl | (simp (disch := omega) only [w32_of, Int.add_sub_cancel, up2_ne]; done)))
  rw [if_neg c0] at ee
  repeat' (first | refine bd_t ee ?_ | refine ci_bt (by omega) ?_ | refine ci_bf (by omega) ?_ | refine ite_b01 ?_ | refine ci_b (fun _ => ?_) (fun _ => ?_) | refine ci_t (by omega) ?_ | refine ci_f (by omega) ?_ | refine ite_t (by omega) ?_ | refine ite_f (by omega) ?_ | refine bd_t (S_125 (by omega)) ?_ | refine (T_124_0 ..).trans ?_ | refine (T_124_10 ..).trans ?_ | refine ci_c (fun _ => ?_) (fun _ => ?_))
  all_goals first | exact spec_f (by omega) rfl | (refine spec_t (by omega) ?_; first | rfl | (simp (disch := omega) only [w32_of, Int.add_sub_cancel, up2_ne]; done)) | (refine spec_f (by omega) ?_; first | exact spec_f (by omega) rfl | (refine spec_t (by omega) ?_; first | rfl | (simp (disch := omega) only [w32_of, Int.add_sub_cancel, up2_ne]; done)))
theorem S_127 {k x y : Int} (h0 : 0 ≤ I 45 0 ∧ I 45 0 ≤ 15) (h1 : 0 ≤ I 45 1 ∧ I 45 1 ≤ 30) : Call PG (d + 5) 127 [(2, 0), (0, k), (0, x), (0, y)] (I, RF sp rt tt z.1, z) = if I 45 1 < 30 ∧ (0 ≤ k ∧ k < I 45 0) ∧ -100000 ≤ x ∧ x ≤ 100000 ∧ -100000 ≤ y ∧ y ≤ 100000 then some (some (0, I 45 1), (up2 (up2 (up2 (up2 I 50 (I 45 1).toNat k) 51 (I 45 1).toNat x) 52 (I 45 1).toNat y) 45 1 (I 45 1 + 1), RF sp rt tt z.1, z)) else some (some (0, -1), (I, RF sp rt tt z.1, z)) := by
  refine (K_127 ..).trans ?_
  have ee := S_128 (d := d + 0) (I := I) (sp := sp) (rt := rt) (tt := tt) (z := z) (k := k) (x := x) (y := y) (by omega) (by omega)
  by_cases c0 : I 45 1 < 30 ∧ (0 ≤ k ∧ k < I 45 0) ∧ -100000 ≤ x ∧ x ≤ 100000 ∧ -100000 ≤ y ∧ y ≤ 100000
  · rw [if_pos c0] at ee
    repeat' (first | refine bd_t ee ?_ | refine ci_bt (by omega) ?_ | refine ci_bf (by omega) ?_ | refine ite_b01 ?_ | refine ci_b (fun _ => ?_) (fun _ => ?_) | refine ci_t (by omega) ?_ | refine ci_f (by omega) ?_ | refine ite_t (by omega) ?_ | refine ite_f (by omega) ?_ | refine bd_t (S_128 (by omega) (by omega)) ?_ | refine (T_127_0 ..).trans ?_ | refine (T_127_10 ..).trans ?_ | refine ci_c (fun _ => ?_) (fun _ => ?_))
    all_goals first | exact spec_f (by omega) rfl | (refine spec_t (by omega) ?_; first | rfl | (simp (disch := omega) only [w32_of, Int.add_sub_cancel, up2_ne]; done)) | (refine spec_f (by omega) ?_; first | exact spec_f (by omega) rfl | (refine spec_t (by omega) ?_; first | rfl | (simp (disch := omega) only [w32_of, Int.add_sub_cancel, up2_ne]; done)))
  rw [if_neg c0] at ee
  repeat' (first | refine bd_t ee ?_ | refine ci_bt (by omega) ?_ | refine ci_bf (by omega) ?_ | refine ite_b01 ?_ | refine ci_b (fun _ => ?_) (fun _ => ?_) | refine ci_t (by omega) ?_ | refine ci_f (by omega) ?_ | refine ite_t (by omega) ?_ | refine ite_f (by omega) ?_ | refine bd_t (S_128 (by omega) (by omega)) ?_ | refine (T_127_0 ..).trans ?_ | refine (T_127_10 ..).trans ?_ | refine ci_c (fun _ => ?_) (fun _ => ?_))
  all_goals first | exact spec_f (by omega) rfl | (refine spec_t (by omega) ?_; first | rfl | (simp (disch := omega) only [w32_of, Int.add_sub_cancel, up2_ne]; done)) | (refine spec_f (by omega) ?_; first | exact spec_f (by omega) rfl | (refine spec_t (by omega) ?_; first | rfl | (simp (disch := omega) only [w32_of, Int.add_sub_cancel, up2_ne]; done)))
theorem S_130 {p k x y : Int} (h0 : 0 ≤ I 45 0 ∧ I 45 0 ≤ 15) (h1 : 0 ≤ I 45 2 ∧ I 45 2 ≤ 30) : Call PG (d + 5) 130 [(2, 0), (0, p), (0, k), (0, x), (0, y)] (I, RF sp rt tt z.1, z) = if (0 ≤ p ∧ p < I 2 6) ∧ I 45 2 < 30 ∧ (0 ≤ k ∧ k < I 45 0) ∧ -100000 ≤ x ∧ x ≤ 100000 ∧ -100000 ≤ y ∧ y ≤ 100000 then some (some (0, I 45 2), (up2 (up2 (up2 (up2 (up2 I 50 (30 + I 45 2).toNat k) 51 (30 + I 45 2).toNat x) 52 (30 + I 45 2).toNat y) 53 (I 45 2).toNat p) 45 2 (I 45 2 + 1), RF sp rt tt z.1, z)) else some (some (0, -1), (I, RF sp rt tt z.1, z)) := by
  refine (K_130 ..).trans ?_
  by_cases gd : 0 ≤ p ∧ p < I 2 6
  · have ee := S_131 (d := d + 0) (I := I) (sp := sp) (rt := rt) (tt := tt) (z := z) (p := p) (k := k) (x := x) (y := y) (by omega) (by omega)
    by_cases c0 : I 45 2 < 30 ∧ (0 ≤ k ∧ k < I 45 0) ∧ -100000 ≤ x ∧ x ≤ 100000 ∧ -100000 ≤ y ∧ y ≤ 100000
    · rw [if_pos c0] at ee
      repeat' (first | refine bd_t ee ?_ | refine ci_bt (by omega) ?_ | refine ci_bf (by omega) ?_ | refine ite_b01 ?_ | refine ci_b (fun _ => ?_) (fun _ => ?_) | refine ci_t (by omega) ?_ | refine ci_f (by omega) ?_ | refine ite_t (by omega) ?_ | refine ite_f (by omega) ?_ | refine bd_t (S_18) ?_ | refine bd_t (S_131 (by omega) (by omega)) ?_ | refine (T_130_0 ..).trans ?_ | refine (T_130_8 ..).trans ?_ | refine (T_130_23 ..).trans ?_ | refine ci_c (fun _ => ?_) (fun _ => ?_))
      all_goals first | exact spec_f (by omega) rfl | (refine spec_t (by omega) ?_; first | rfl | (simp (disch := omega) only [w32_of, Int.add_sub_cancel, up2_ne]; done)) | (refine spec_f (by omega) ?_; first | exact spec_f (by omega) rfl | (refine spec_t (by omega) ?_; first | rfl | (simp (disch := omega) only [w32_of, Int.add_sub_cancel, up2_ne]; done)))
    rw [if_neg c0] at ee
    repeat' (first | refine bd_t ee ?_ | refine ci_bt (by omega) ?_ | refine ci_bf (by omega) ?_ | refine ite_b01 ?_ | refine ci_b (fun _ => ?_) (fun _ => ?_) | refine ci_t (by omega) ?_ | refine ci_f (by omega) ?_ | refine ite_t (by omega) ?_ | refine ite_f (by omega) ?_ | refine bd_t (S_18) ?_ | refine bd_t (S_131 (by omega) (by omega)) ?_ | refine (T_130_0 ..).trans ?_ | refine (T_130_8 ..).trans ?_ | refine (T_130_23 ..).trans ?_ | refine ci_c (fun _ => ?_) (fun _ => ?_))
    all_goals first | exact spec_f (by omega) rfl | (refine spec_t (by omega) ?_; first | rfl | (simp (disch := omega) only [w32_of, Int.add_sub_cancel, up2_ne]; done)) | (refine spec_f (by omega) ?_; first | exact spec_f (by omega) rfl | (refine spec_t (by omega) ?_; first | rfl | (simp (disch := omega) only [w32_of, Int.add_sub_cancel, up2_ne]; done)))
  · repeat' (first | refine ci_bt (by omega) ?_ | refine ci_bf (by omega) ?_ | refine ite_b01 ?_ | refine ci_b (fun _ => ?_) (fun _ => ?_) | refine ci_t (by omega) ?_ | refine ci_f (by omega) ?_ | refine ite_t (by omega) ?_ | refine ite_f (by omega) ?_ | refine bd_t (S_18) ?_ | refine bd_t (S_131 (by omega) (by omega)) ?_ | refine (T_130_0 ..).trans ?_ | refine (T_130_8 ..).trans ?_ | refine (T_130_23 ..).trans ?_ | refine ci_c (fun _ => ?_) (fun _ => ?_))
    all_goals first | exact spec_f (by omega) rfl | (refine spec_t (by omega) ?_; first | rfl | (simp (disch := omega) only [w32_of, Int.add_sub_cancel, up2_ne]; done)) | (refine spec_f (by omega) ?_; first | exact spec_f (by omega) rfl | (refine spec_t (by omega) ?_; first | rfl | (simp (disch := omega) only [w32_of, Int.add_sub_cancel, up2_ne]; done)))
theorem S_145 {l : Int} (h0 : 0 ≤ I 55 4 ∧ I 55 4 ≤ 60) : Call PG (d + 3) 145 [(2, 0), (0, l)] (I, RF sp rt tt z.1, z) = if I 55 4 < 60 ∧ 0 ≤ l ∧ l ≤ 9 then some (some (0, I 55 4), (up2 (up2 I 59 (I 55 4).toNat l) 55 4 (I 55 4 + 1), RF sp rt tt z.1, z)) else some (some (0, -1), (I, RF sp rt tt z.1, z)) := by
  refine (K_145 ..).trans ?_
  have ee := S_146 (d := d + 0) (I := I) (sp := sp) (rt := rt) (tt := tt) (z := z) (l := l) (by omega)
  by_cases c0 : I 55 4 < 60 ∧ 0 ≤ l ∧ l ≤ 9
  · rw [if_pos c0] at ee
    repeat' (first | refine bd_t ee ?_ | refine ci_bt (by omega) ?_ | refine ci_bf (by omega) ?_ | refine ite_b01 ?_ | refine ci_b (fun _ => ?_) (fun _ => ?_) | refine ci_t (by omega) ?_ | refine ci_f (by omega) ?_ | refine ite_t (by omega) ?_ | refine ite_f (by omega) ?_ | refine bd_t (S_146 (by omega)) ?_ | refine (T_145_0 ..).trans ?_ | refine (T_145_8 ..).trans ?_ | refine ci_c (fun _ => ?_) (fun _ => ?_))
    all_goals first | exact spec_f (by omega) rfl | (refine spec_t (by omega) ?_; first | rfl | (simp (disch := omega) only [w32_of, Int.add_sub_cancel, up2_ne]; done)) | (refine spec_f (by omega) ?_; first | exact spec_f (by omega) rfl | (refine spec_t (by omega) ?_; first | rfl | (simp (disch := omega) only [w32_of, Int.add_sub_cancel, up2_ne]; done)))
  rw [if_neg c0] at ee
  repeat' (first | refine bd_t ee ?_ | refine ci_bt (by omega) ?_ | refine ci_bf (by omega) ?_ | refine ite_b01 ?_ | refine ci_b (fun _ => ?_) (fun _ => ?_) | refine ci_t (by omega) ?_ | refine ci_f (by omega) ?_ | refine ite_t (by omega) ?_ | refine ite_f (by omega) ?_ | refine bd_t (S_146 (by omega)) ?_ | refine (T_145_0 ..).trans ?_ | refine (T_145_8 ..).trans ?_ | refine ci_c (fun _ => ?_) (fun _ => ?_))
  all_goals first | exact spec_f (by omega) rfl | (refine spec_t (by omega) ?_; first | rfl | (simp (disch := omega) only [w32_of, Int.add_sub_cancel, up2_ne]; done)) | (refine spec_f (by omega) ?_; first | exact spec_f (by omega) rfl | (refine spec_t (by omega) ?_; first | rfl | (simp (disch := omega) only [w32_of, Int.add_sub_cancel, up2_ne]; done)))
theorem S_147 {h l : Int} (h0 : 0 ≤ I 55 0 ∧ I 55 0 ≤ 40) (h1 : 0 ≤ I 55 4 ∧ I 55 4 ≤ 60) (h2 : 0 ≤ I 55 7 ∧ I 55 7 ≤ 300) (h3 : 0 ≤ h ∧ h < I 55 0 → 0 ≤ I 56 h.toNat ∧ I 56 h.toNat < 12) (h4 : 0 ≤ h ∧ h < I 55 0 → 0 ≤ I 64 (I 56 h.toNat).toNat ∧ I 64 (I 56 h.toNat).toNat ≤ 300) (h5 : 0 ≤ h ∧ h < I 55 0 → 0 ≤ I 65 (I 56 h.toNat).toNat ∧ I 65 (I 56 h.toNat).toNat ≤ 300) : Call PG (d + 4) 147 [(2, 0), (0, h), (0, l)] (I, RF sp rt tt z.1, z) = if (0 ≤ h ∧ h < I 55 0) ∧ I 58 h.toNat = -1 ∧ I 55 7 < 300 ∧ l = -1 then some (some (0, 1), (up2 (up2 (up2 (up2 (up2 (up2 I 61 (I 55 7).toNat h) 62 (I 55 7).toNat l) 63 (I 55 7).toNat (-1)) 58 (h).toNat (I 55 7)) 55 7 (I 55 7 + 1)) 64 (I 56 h.toNat).toNat (I 64 (I 56 h.toNat).toNat + 1), RF sp rt tt z.1, z)) else if (0 ≤ h ∧ h < I 55 0) ∧ I 58 h.toNat = -1 ∧ I 55 7 < 300 ∧ (0 ≤ l ∧ l < I 55 4) ∧ I 60 l.toNat = 0 then some (some (0, 1), (up2 (up2 (up2 (up2 (up2 (up2 (up2 (up2 I 60 (l).toNat 1) 65 (I 56 h.toNat).toNat (I 65 (I 56 h.toNat).toNat + 1)) 61 (I 55 7).toNat h) 62 (I 55 7).toNat l) 63 (I 55 7).toNat (-1)) 58 (h).toNat (I 55 7)) 55 7 (I 55 7 + 1)) 64 (I 56 h.toNat).toNat (I 64 (I 56 h.toNat).toNat + 1), RF sp rt tt z.1, z)) else some (some (0, 0), (I, RF sp rt tt z.1, z)) := by
  refine (K_147 ..).trans ?_
  have ee := S_148 (d := d + 0) (I := I) (sp := sp) (rt := rt) (tt := tt) (z := z) (h := h) (l := l) (by omega) (by omega) (by omega) (by omega) (by omega) (by omega)
  by_cases c0 : (0 ≤ h ∧ h < I 55 0) ∧ I 58 h.toNat = -1 ∧ I 55 7 < 300 ∧ l = -1
  · rw [if_pos c0] at ee
    repeat' (first | refine bd_t ee ?_ | refine ci_bt (by omega) ?_ | refine ci_bf (by omega) ?_ | refine ite_b01 ?_ | refine ci_b (fun _ => ?_) (fun _ => ?_) | refine ci_t (by omega) ?_ | refine ci_f (by omega) ?_ | refine ite_t (by omega) ?_ | refine ite_f (by omega) ?_ | refine bd_t (S_148 (by omega) (by omega) (by omega) (by omega) (by omega) (by omega)) ?_ | refine (T_147_0 ..).trans ?_ | refine (T_147_9 ..).trans ?_ | refine ci_c (fun _ => ?_) (fun _ => ?_))
    all_goals first | exact spec_f (by omega) rfl | (refine spec_t (by omega) ?_; first | rfl | (simp (disch := omega) only [w32_of, Int.add_sub_cancel, up2_ne]; done)) | (refine spec_f (by omega) ?_; first | exact spec_f (by omega) rfl | (refine spec_t (by omega) ?_; first | rfl | (simp (disch := omega) only [w32_of, Int.add_sub_cancel, up2_ne]; done)))
  rw [if_neg c0] at ee
  by_cases c1 : (0 ≤ h ∧ h < I 55 0) ∧ I 58 h.toNat = -1 ∧ I 55 7 < 300 ∧ (0 ≤ l ∧ l < I 55 4) ∧ I 60 l.toNat = 0
  · rw [if_pos c1] at ee
    repeat' (first | refine bd_t ee ?_ | refine ci_bt (by omega) ?_ | refine ci_bf (by omega) ?_ | refine ite_b01 ?_ | refine ci_b (fun _ => ?_) (fun _ => ?_) | refine ci_t (by omega) ?_ | refine ci_f (by omega) ?_ | refine ite_t (by omega) ?_ | refine ite_f (by omega) ?_ | refine bd_t (S_148 (by omega) (by omega) (by omega) (by omega) (by omega) (by omega)) ?_ | refine (T_147_0 ..).trans ?_ | refine (T_147_9 ..).trans ?_ | refine ci_c (fun _ => ?_) (fun _ => ?_))
    all_goals first | exact spec_f (by omega) rfl | (refine spec_t (by omega) ?_; first | rfl | (simp (disch := omega) only [w32_of, Int.add_sub_cancel, up2_ne]; done)) | (refine spec_f (by omega) ?_; first | exact spec_f (by omega) rfl | (refine spec_t (by omega) ?_; first | rfl | (simp (disch := omega) only [w32_of, Int.add_sub_cancel, up2_ne]; done)))
  rw [if_neg c1] at ee
  repeat' (first | refine bd_t ee ?_ | refine ci_bt (by omega) ?_ | refine ci_bf (by omega) ?_ | refine ite_b01 ?_ | refine ci_b (fun _ => ?_) (fun _ => ?_) | refine ci_t (by omega) ?_ | refine ci_f (by omega) ?_ | refine ite_t (by omega) ?_ | refine ite_f (by omega) ?_ | refine bd_t (S_148 (by omega) (by omega) (by omega) (by omega) (by omega) (by omega)) ?_ | refine (T_147_0 ..).trans ?_ | refine (T_147_9 ..).trans ?_ | refine ci_c (fun _ => ?_) (fun _ => ?_))
  all_goals first | exact spec_f (by omega) rfl | (refine spec_t (by omega) ?_; first | rfl | (simp (disch := omega) only [w32_of, Int.add_sub_cancel, up2_ne]; done)) | (refine spec_f (by omega) ?_; first | exact spec_f (by omega) rfl | (refine spec_t (by omega) ?_; first | rfl | (simp (disch := omega) only [w32_of, Int.add_sub_cancel, up2_ne]; done)))
theorem S_151 {h : Int} (h0 : 0 ≤ I 55 0 ∧ I 55 0 ≤ 40) (h1 : 0 ≤ I 55 7 ∧ I 55 7 ≤ 300) (h2 : 0 ≤ h ∧ h < I 55 0 → 0 ≤ I 56 h.toNat ∧ I 56 h.toNat < 12) (h3 : 0 ≤ h ∧ h < I 55 0 → -1 ≤ I 58 h.toNat ∧ I 58 h.toNat < I 55 7) (h4 : 0 ≤ h ∧ h < I 55 0 ∧ ¬ I 58 h.toNat = -1 → -1 ≤ I 62 (I 58 h.toNat).toNat ∧ I 62 (I 58 h.toNat).toNat < 60) (h5 : 0 ≤ h ∧ h < I 55 0 → 0 ≤ I 64 (I 56 h.toNat).toNat ∧ I 64 (I 56 h.toNat).toNat ≤ 300) (h6 : 0 ≤ h ∧ h < I 55 0 → 0 ≤ I 65 (I 56 h.toNat).toNat ∧ I 65 (I 56 h.toNat).toNat ≤ 300) : Call PG (d + 4) 151 [(2, 0), (0, h)] (I, RF sp rt tt z.1, z) = if (0 ≤ h ∧ h < I 55 0) ∧ ¬ I 58 h.toNat = -1 ∧ I 62 (I 58 h.toNat).toNat = -1 then some (some (0, 1), (up2 (up2 (up2 I 63 (I 58 h.toNat).toNat ((I 0 0))) 58 (h).toNat (-1)) 64 (I 56 h.toNat).toNat (I 64 (I 56 h.toNat).toNat - 1), RF sp rt tt z.1, z)) else if (0 ≤ h ∧ h < I 55 0) ∧ ¬ I 58 h.toNat = -1 then some (some (0, 1), (up2 (up2 (up2 (up2 (up2 I 60 (I 62 (I 58 h.toNat).toNat).toNat 0) 65 (I 56 h.toNat).toNat (I 65 (I 56 h.toNat).toNat - 1)) 63 (I 58 h.toNat).toNat ((I 0 0))) 58 (h).toNat (-1)) 64 (I 56 h.toNat).toNat (I 64 (I 56 h.toNat).toNat - 1), RF sp rt tt z.1, z)) else some (some (0, 0), (I, RF sp rt tt z.1, z)) := by
  refine (K_151 ..).trans ?_
  have ee := S_152 (d := d + 0) (I := I) (sp := sp) (rt := rt) (tt := tt) (z := z) (h := h) (w := (I 0 0)) (by omega) (by omega) (by omega) (by omega) (by omega) (by omega) (by omega)
  by_cases c0 : (0 ≤ h ∧ h < I 55 0) ∧ ¬ I 58 h.toNat = -1 ∧ I 62 (I 58 h.toNat).toNat = -1
  · rw [if_pos c0] at ee
    repeat' (first | refine bd_t ee ?_ | refine ci_bt (by omega) ?_ | refine ci_bf (by omega) ?_ | refine ite_b01 ?_ | refine ci_b (fun _ => ?_) (fun _ => ?_) | refine ci_t (by omega) ?_ | refine ci_f (by omega) ?_ | refine ite_t (by omega) ?_ | refine ite_f (by omega) ?_ | refine bd_t (S_152 (by omega) (by omega) (by omega) (by omega) (by omega) (by omega) (by omega)) ?_ | refine (T_151_0 ..).trans ?_ | refine (T_151_12 ..).trans ?_ | refine ci_c (fun _ => ?_) (fun _ => ?_))
    all_goals first | exact spec_f (by omega) rfl | (refine spec_t (by omega) ?_; first | rfl | (simp (disch := omega) only [w32_of, Int.add_sub_cancel, up2_ne]; done)) | (refine spec_f (by omega) ?_; first | exact spec_f (by omega) rfl | (refine spec_t (by omega) ?_; first | rfl | (simp (disch := omega) only [w32_of, Int.add_sub_cancel, up2_ne]; done)))
  rw [if_neg c0] at ee
  by_cases c1 : (0 ≤ h ∧ h < I 55 0) ∧ ¬ I 58 h.toNat = -1
  · rw [if_pos c1] at ee
    repeat' (first | refine bd_t ee ?_ | refine ci_bt (by omega) ?_ | refine ci_bf (by omega) ?_ | refine ite_b01 ?_ | refine ci_b (fun _ => ?_) (fun _ => ?_) | refine ci_t (by omega) ?_ | refine ci_f (by omega) ?_ | refine ite_t (by omega) ?_ | refine ite_f (by omega) ?_ | refine bd_t (S_152 (by omega) (by omega) (by omega) (by omega) (by omega) (by omega) (by omega)) ?_ | refine (T_151_0 ..).trans ?_ | refine (T_151_12 ..).trans ?_ | refine ci_c (fun _ => ?_) (fun _ => ?_))
    all_goals first | exact spec_f (by omega) rfl | (refine spec_t (by omega) ?_; first | rfl | (simp (disch := omega) only [w32_of, Int.add_sub_cancel, up2_ne]; done)) | (refine spec_f (by omega) ?_; first | exact spec_f (by omega) rfl | (refine spec_t (by omega) ?_; first | rfl | (simp (disch := omega) only [w32_of, Int.add_sub_cancel, up2_ne]; done)))
  rw [if_neg c1] at ee
  repeat' (first | refine bd_t ee ?_ | refine ci_bt (by omega) ?_ | refine ci_bf (by omega) ?_ | refine ite_b01 ?_ | refine ci_b (fun _ => ?_) (fun _ => ?_) | refine ci_t (by omega) ?_ | refine ci_f (by omega) ?_ | refine ite_t (by omega) ?_ | refine ite_f (by omega) ?_ | refine bd_t (S_152 (by omega) (by omega) (by omega) (by omega) (by omega) (by omega) (by omega)) ?_ | refine (T_151_0 ..).trans ?_ | refine (T_151_12 ..).trans ?_ | refine ci_c (fun _ => ?_) (fun _ => ?_))
  all_goals first | exact spec_f (by omega) rfl | (refine spec_t (by omega) ?_; first | rfl | (simp (disch := omega) only [w32_of, Int.add_sub_cancel, up2_ne]; done)) | (refine spec_f (by omega) ?_; first | exact spec_f (by omega) rfl | (refine spec_t (by omega) ?_; first | rfl | (simp (disch := omega) only [w32_of, Int.add_sub_cancel, up2_ne]; done)))
theorem S_159 {h : Int} (h0 : 0 ≤ I 55 0 ∧ I 55 0 ≤ 40) (h1 : 0 ≤ I 55 13 ∧ I 55 13 ≤ 300) : Call PG (d + 3) 159 [(2, 0), (0, h)] (I, RF sp rt tt z.1, z) = if (0 ≤ h ∧ h < I 55 0) ∧ I 57 h.toNat = 3 ∧ ¬ I 58 h.toNat = -1 ∧ I 55 13 < 300 then some (some (0, 1), (up2 (up2 (up2 I 66 (I 55 13).toNat (I 56 h.toNat)) 67 (I 55 13).toNat ((I 0 0))) 55 13 (I 55 13 + 1), RF sp rt tt z.1, z)) else some (some (0, 0), (I, RF sp rt tt z.1, z)) := by
  refine (K_159 ..).trans ?_
  have ee := S_160 (d := d + 0) (I := I) (sp := sp) (rt := rt) (tt := tt) (z := z) (h := h) (w := (I 0 0)) (by omega) (by omega)
  by_cases c0 : (0 ≤ h ∧ h < I 55 0) ∧ I 57 h.toNat = 3 ∧ ¬ I 58 h.toNat = -1 ∧ I 55 13 < 300
  · rw [if_pos c0] at ee
    repeat' (first | refine bd_t ee ?_ | refine ci_bt (by omega) ?_ | refine ci_bf (by omega) ?_ | refine ite_b01 ?_ | refine ci_b (fun _ => ?_) (fun _ => ?_) | refine ci_t (by omega) ?_ | refine ci_f (by omega) ?_ | refine ite_t (by omega) ?_ | refine ite_f (by omega) ?_ | refine bd_t (S_160 (by omega) (by omega)) ?_ | refine (T_159_0 ..).trans ?_ | refine (T_159_12 ..).trans ?_ | refine ci_c (fun _ => ?_) (fun _ => ?_))
    all_goals first | exact spec_f (by omega) rfl | (refine spec_t (by omega) ?_; first | rfl | (simp (disch := omega) only [w32_of, Int.add_sub_cancel, up2_ne]; done)) | (refine spec_f (by omega) ?_; first | exact spec_f (by omega) rfl | (refine spec_t (by omega) ?_; first | rfl | (simp (disch := omega) only [w32_of, Int.add_sub_cancel, up2_ne]; done)))
  rw [if_neg c0] at ee
  repeat' (first | refine bd_t ee ?_ | refine ci_bt (by omega) ?_ | refine ci_bf (by omega) ?_ | refine ite_b01 ?_ | refine ci_b (fun _ => ?_) (fun _ => ?_) | refine ci_t (by omega) ?_ | refine ci_f (by omega) ?_ | refine ite_t (by omega) ?_ | refine ite_f (by omega) ?_ | refine bd_t (S_160 (by omega) (by omega)) ?_ | refine (T_159_0 ..).trans ?_ | refine (T_159_12 ..).trans ?_ | refine ci_c (fun _ => ?_) (fun _ => ?_))
  all_goals first | exact spec_f (by omega) rfl | (refine spec_t (by omega) ?_; first | rfl | (simp (disch := omega) only [w32_of, Int.add_sub_cancel, up2_ne]; done)) | (refine spec_f (by omega) ?_; first | exact spec_f (by omega) rfl | (refine spec_t (by omega) ?_; first | rfl | (simp (disch := omega) only [w32_of, Int.add_sub_cancel, up2_ne]; done)))
theorem S_181 {n : Int}  : Call PG (d + 3) 181 [(2, 0), (0, n)] (I, RF sp rt tt z.1, z) = if 1 ≤ n ∧ n ≤ 16 then some (some (0, 1), (up2 I 72 2 n, RF sp rt tt z.1, z)) else some (some (0, 0), (I, RF sp rt tt z.1, z)) := by
  refine (K_181 ..).trans ?_
  have ee := S_182 (d := d + 0) (I := I) (sp := sp) (rt := rt) (tt := tt) (z := z) (n := n)
  by_cases c0 : 1 ≤ n ∧ n ≤ 16
  · rw [if_pos c0] at ee
    repeat' (first | refine bd_t ee ?_ | refine ci_bt (by omega) ?_ | refine ci_bf (by omega) ?_ | refine ite_b01 ?_ | refine ci_b (fun _ => ?_) (fun _ => ?_) | refine ci_t (by omega) ?_ | refine ci_f (by omega) ?_ | refine ite_t (by omega) ?_ | refine ite_f (by omega) ?_ | refine bd_t (S_182) ?_ | refine (T_181_0 ..).trans ?_ | refine (T_181_8 ..).trans ?_ | refine ci_c (fun _ => ?_) (fun _ => ?_))
    all_goals first | exact spec_f (by omega) rfl | (refine spec_t (by omega) ?_; first | rfl | (simp (disch := omega) only [w32_of, Int.add_sub_cancel, up2_ne]; done)) | (refine spec_f (by omega) ?_; first | exact spec_f (by omega) rfl | (refine spec_t (by omega) ?_; first | rfl | (simp (disch := omega) only [w32_of, Int.add_sub_cancel, up2_ne]; done)))
  rw [if_neg c0] at ee
  repeat' (first | refine bd_t ee ?_ | refine ci_bt (by omega) ?_ | refine ci_bf (by omega) ?_ | refine ite_b01 ?_ | refine ci_b (fun _ => ?_) (fun _ => ?_) | refine ci_t (by omega) ?_ | refine ci_f (by omega) ?_ | refine ite_t (by omega) ?_ | refine ite_f (by omega) ?_ | refine bd_t (S_182) ?_ | refine (T_181_0 ..).trans ?_ | refine (T_181_8 ..).trans ?_ | refine ci_c (fun _ => ?_) (fun _ => ?_))
  all_goals first | exact spec_f (by omega) rfl | (refine spec_t (by omega) ?_; first | rfl | (simp (disch := omega) only [w32_of, Int.add_sub_cancel, up2_ne]; done)) | (refine spec_f (by omega) ?_; first | exact spec_f (by omega) rfl | (refine spec_t (by omega) ?_; first | rfl | (simp (disch := omega) only [w32_of, Int.add_sub_cancel, up2_ne]; done)))
theorem S_195 {n : Int}  : Call PG (d + 3) 195 [(2, 0), (0, n)] (I, RF sp rt tt z.1, z) = if 1 ≤ n ∧ n ≤ 60 then some (some (0, 1), (up2 I 77 5 n, RF sp rt tt z.1, z)) else some (some (0, 0), (I, RF sp rt tt z.1, z)) := by
  refine (K_195 ..).trans ?_
  have ee := S_196 (d := d + 0) (I := I) (sp := sp) (rt := rt) (tt := tt) (z := z) (n := n)
  by_cases c0 : 1 ≤ n ∧ n ≤ 60
  · rw [if_pos c0] at ee
    repeat' (first | refine bd_t ee ?_ | refine ci_bt (by omega) ?_ | refine ci_bf (by omega) ?_ | refine ite_b01 ?_ | refine ci_b (fun _ => ?_) (fun _ => ?_) | refine ci_t (by omega) ?_ | refine ci_f (by omega) ?_ | refine ite_t (by omega) ?_ | refine ite_f (by omega) ?_ | refine bd_t (S_196) ?_ | refine (T_195_0 ..).trans ?_ | refine (T_195_8 ..).trans ?_ | refine ci_c (fun _ => ?_) (fun _ => ?_))
    all_goals first | exact spec_f (by omega) rfl | (refine spec_t (by omega) ?_; first | rfl | (simp (disch := omega) only [w32_of, Int.add_sub_cancel, up2_ne]; done)) | (refine spec_f (by omega) ?_; first | exact spec_f (by omega) rfl | (refine spec_t (by omega) ?_; first | rfl | (simp (disch := omega) only [w32_of, Int.add_sub_cancel, up2_ne]; done)))
  rw [if_neg c0] at ee
  repeat' (first | refine bd_t ee ?_ | refine ci_bt (by omega) ?_ | refine ci_bf (by omega) ?_ | refine ite_b01 ?_ | refine ci_b (fun _ => ?_) (fun _ => ?_) | refine ci_t (by omega) ?_ | refine ci_f (by omega) ?_ | refine ite_t (by omega) ?_ | refine ite_f (by omega) ?_ | refine bd_t (S_196) ?_ | refine (T_195_0 ..).trans ?_ | refine (T_195_8 ..).trans ?_ | refine ci_c (fun _ => ?_) (fun _ => ?_))
  all_goals first | exact spec_f (by omega) rfl | (refine spec_t (by omega) ?_; first | rfl | (simp (disch := omega) only [w32_of, Int.add_sub_cancel, up2_ne]; done)) | (refine spec_f (by omega) ?_; first | exact spec_f (by omega) rfl | (refine spec_t (by omega) ?_; first | rfl | (simp (disch := omega) only [w32_of, Int.add_sub_cancel, up2_ne]; done)))
end O2
section O2b
variable {I : Nat → Nat → Int} {sp rt : Nat} {tt : Nat → Nat} {z : Zs}
theorem o_book (p n : Int) (hh : InvS I) : OpR 155 313 [(0, p), (0, n)] I sp rt tt z := by
  obtain ⟨hT, hP, hC, hW, hL, hI, hS⟩ := hh
  have p1 := hP.1
  by_cases c0 : (0 ≤ p ∧ p < I 2 6) ∧ 0 ≤ n ∧ n ≤ 2000
  · refine ⟨1, _, _, (S_155 (by show 0 ≤ I 2 6 ∧ I 2 6 ≤ 12; first | omega | assumption)).trans (if_pos c0), (S_313 (by show 0 ≤ I 82 3 ∧ I 82 3 ≤ 12; first | omega | assumption)).trans ((if_pos (by show (0 ≤ p ∧ p < I 82 3) ∧ 0 ≤ n ∧ n ≤ 2000; omega)).trans (eqv (by show 1 = 1; omega))), ⟨hT, ?_, hC, hW, hL, hI, hS⟩, ?_⟩
    · unfold GP
      repeat' apply And.intro
      · first | exact hP.1.1 | (have q := hP.1.1; have q0 := hP.1; simp only [up2_def]; grind)
      · first | exact hP.1.2.1 | (have q := hP.1.2.1; have q0 := hP.1; simp only [up2_def]; grind)
      · first | exact hP.1.2.2 | (have q := hP.1.2.2; have q0 := hP.1; simp only [up2_def]; grind)
      · first | exact hP.2.1.1 | (have q := hP.2.1.1; have q0 := hP.1; simp only [up2_def]; grind)
      · first | exact hP.2.1.2.1 | (have q := hP.2.1.2.1; have q0 := hP.1; simp only [up2_def]; grind)
      · first | exact hP.2.1.2.2 | (have q := hP.2.1.2.2; have q0 := hP.1; simp only [up2_def]; grind)
      · first | exact hP.2.2.1.1 | (have q := hP.2.2.1.1; have q0 := hP.1; simp only [up2_def]; grind)
      · first | exact hP.2.2.1.2.1 | (have q := hP.2.2.1.2.1; have q0 := hP.1; simp only [up2_def]; grind)
      · first | exact hP.2.2.1.2.2.1 | (have q := hP.2.2.1.2.2.1; have q0 := hP.1; simp only [up2_def]; grind)
      · first | exact hP.2.2.1.2.2.2.1 | (have q := hP.2.2.1.2.2.2.1; have q0 := hP.1; simp only [up2_def]; grind)
      · first | exact hP.2.2.1.2.2.2.2.1 | (have q := hP.2.2.1.2.2.2.2.1; have q0 := hP.1; simp only [up2_def]; grind)
      · first | exact hP.2.2.1.2.2.2.2.2 | (have q := hP.2.2.1.2.2.2.2.2; have q0 := hP.1; simp only [up2_def]; grind)
      · first | exact hP.2.2.2.1 | (have q := hP.2.2.2.1; have q0 := hP.1; simp only [up2_def]; grind)
      · first | exact hP.2.2.2.2.1 | (have q := hP.2.2.2.2.1; have q0 := hP.1; simp only [up2_def]; grind)
      · first | exact hP.2.2.2.2.2.1 | (have q := hP.2.2.2.2.2.1; have q0 := hP.1; simp only [up2_def]; grind)
      · first | exact hP.2.2.2.2.2.2.1 | (have q := hP.2.2.2.2.2.2.1; have q0 := hP.1; simp only [up2_def]; grind)
      · first | exact hP.2.2.2.2.2.2.2.1 | (have q := hP.2.2.2.2.2.2.2.1; have q0 := hP.1; simp only [up2_def]; grind)
      · first | exact hP.2.2.2.2.2.2.2.2 | (have q := hP.2.2.2.2.2.2.2.2; have q0 := hP.1; simp only [up2_def]; grind)
    · repeat (first | rfl | refine (rs_up (by rfl)).trans ?_)
  refine ⟨0, _, _, (S_155 (by show 0 ≤ I 2 6 ∧ I 2 6 ≤ 12; first | omega | assumption)).trans (if_neg c0), (S_313 (by show 0 ≤ I 82 3 ∧ I 82 3 ≤ 12; first | omega | assumption)).trans (if_neg (by show ¬ ((0 ≤ p ∧ p < I 82 3) ∧ 0 ≤ n ∧ n ≤ 2000); omega)), ⟨hT, hP, hC, hW, hL, hI, hS⟩, rfl⟩
theorem o_inspectors (n : Int) (hh : InvS I) : OpR 181 327 [(0, n)] I sp rt tt z := by
  obtain ⟨hT, hP, hC, hW, hL, hI, hS⟩ := hh
  have l1 := hL.1
  by_cases c0 : 1 ≤ n ∧ n ≤ 16
  · refine ⟨1, _, _, (S_181).trans (if_pos c0), (S_327).trans ((if_pos (by show 1 ≤ n ∧ n ≤ 16; omega)).trans (eqv (by show 1 = 1; omega))), ⟨hT, hP, hC, hW, ?_, hI, hS⟩, ?_⟩
    · unfold GL
      repeat' apply And.intro
      · first | exact hL.1.1 | (have q := hL.1.1; have q0 := hL.1; simp only [up2_def]; grind)
      · first | exact hL.1.2.1 | (have q := hL.1.2.1; have q0 := hL.1; simp only [up2_def]; grind)
      · first | exact hL.1.2.2 | (have q := hL.1.2.2; have q0 := hL.1; simp only [up2_def]; grind)
      · first | exact hL.2.1.1 | (have q := hL.2.1.1; have q0 := hL.1; simp only [up2_def]; grind)
      · first | exact hL.2.1.2.1 | (have q := hL.2.1.2.1; have q0 := hL.1; simp only [up2_def]; grind)
      · first | exact hL.2.1.2.2 | (have q := hL.2.1.2.2; have q0 := hL.1; simp only [up2_def]; grind)
      · first | exact hL.2.2.1 | (have q := hL.2.2.1; have q0 := hL.1; simp only [up2_def]; grind)
      · first | exact hL.2.2.2.1 | (have q := hL.2.2.2.1; have q0 := hL.1; simp only [up2_def]; grind)
      · first | exact hL.2.2.2.2 | (have q := hL.2.2.2.2; have q0 := hL.1; simp only [up2_def]; grind)
    · repeat (first | rfl | refine (rs_up (by rfl)).trans ?_)
  refine ⟨0, _, _, (S_181).trans (if_neg c0), (S_327).trans (if_neg (by show ¬ (1 ≤ n ∧ n ≤ 16); omega)), ⟨hT, hP, hC, hW, hL, hI, hS⟩, rfl⟩
theorem o_pace (n : Int) (hh : InvS I) : OpR 195 334 [(0, n)] I sp rt tt z := by
  obtain ⟨hT, hP, hC, hW, hL, hI, hS⟩ := hh
  by_cases c0 : 1 ≤ n ∧ n ≤ 60
  · refine ⟨1, _, _, (S_195).trans (if_pos c0), (S_334).trans ((if_pos (by show 1 ≤ n ∧ n ≤ 60; omega)).trans (eqv (by show 1 = 1; omega))), ⟨hT, hP, hC, hW, hL, ?_, hS⟩, ?_⟩
    · unfold GI
      repeat' apply And.intro
      · first | exact hI.1.1 | (have q := hI.1.1; have q0 := hI.1; simp only [up2_def]; grind)
      · first | exact hI.1.2.1 | (have q := hI.1.2.1; have q0 := hI.1; simp only [up2_def]; grind)
      · first | exact hI.1.2.2 | (have q := hI.1.2.2; have q0 := hI.1; simp only [up2_def]; grind)
      · first | exact hI.2.1.1 | (have q := hI.2.1.1; have q0 := hI.1; simp only [up2_def]; grind)
      · first | exact hI.2.1.2.1 | (have q := hI.2.1.2.1; have q0 := hI.1; simp only [up2_def]; grind)
      · first | exact hI.2.1.2.2 | (have q := hI.2.1.2.2; have q0 := hI.1; simp only [up2_def]; grind)
      · first | exact hI.2.2.1.1 | (have q := hI.2.2.1.1; have q0 := hI.1; simp only [up2_def]; grind)
      · first | exact hI.2.2.1.2.1 | (have q := hI.2.2.1.2.1; have q0 := hI.1; simp only [up2_def]; grind)
      · first | exact hI.2.2.1.2.2 | (have q := hI.2.2.1.2.2; have q0 := hI.1; simp only [up2_def]; grind)
      · first | exact hI.2.2.2 | (have q := hI.2.2.2; have q0 := hI.1; simp only [up2_def]; grind)
    · repeat (first | rfl | refine (rs_up (by rfl)).trans ?_)
  refine ⟨0, _, _, (S_195).trans (if_neg c0), (S_334).trans (if_neg (by show ¬ (1 ≤ n ∧ n ≤ 60); omega)), ⟨hT, hP, hC, hW, hL, hI, hS⟩, rfl⟩
theorem o_plan (e t x y : Int) (hh : InvS I) : OpR 121 296 [(0, e), (0, t), (0, x), (0, y)] I sp rt tt z := by
  obtain ⟨hT, hP, hC, hW, hL, hI, hS⟩ := hh
  have s1 := hS.1
  by_cases c0 : I 45 0 < 15 ∧ (0 ≤ e ∧ e ≤ 1000) ∧ (0 ≤ t ∧ t ≤ 3) ∧ -100000 ≤ x ∧ x ≤ 100000 ∧ -100000 ≤ y ∧ y ≤ 100000
  · refine ⟨I 45 0, _, _, (S_121 (by show 0 ≤ I 45 0 ∧ I 45 0 ≤ 15; first | omega | assumption)).trans (if_pos c0), (S_296 (by show 0 ≤ I 82 8 ∧ I 82 8 ≤ 15; first | omega | assumption)).trans ((if_pos (by show I 82 8 < 15 ∧ (0 ≤ e ∧ e ≤ 1000) ∧ (0 ≤ t ∧ t ≤ 3) ∧ -100000 ≤ x ∧ x ≤ 100000 ∧ -100000 ≤ y ∧ y ≤ 100000; omega)).trans (eqv (by show I 82 8 = I 45 0; omega))), ⟨hT, hP, hC, hW, hL, hI, ?_⟩, ?_⟩
    · unfold GS
      repeat' apply And.intro
      · first | exact hS.1.1.1 | (have q := hS.1.1.1; have q0 := hS.1; simp only [up2_def]; grind)
      · first | exact hS.1.1.2.1 | (have q := hS.1.1.2.1; have q0 := hS.1; simp only [up2_def]; grind)
      · first | exact hS.1.1.2.2 | (have q := hS.1.1.2.2; have q0 := hS.1; simp only [up2_def]; grind)
      · first | exact hS.1.2.1.1 | (have q := hS.1.2.1.1; have q0 := hS.1; simp only [up2_def]; grind)
      · first | exact hS.1.2.1.2.1 | (have q := hS.1.2.1.2.1; have q0 := hS.1; simp only [up2_def]; grind)
      · first | exact hS.1.2.1.2.2 | (have q := hS.1.2.1.2.2; have q0 := hS.1; simp only [up2_def]; grind)
      · first | exact hS.1.2.2.1.1 | (have q := hS.1.2.2.1.1; have q0 := hS.1; simp only [up2_def]; grind)
      · first | exact hS.1.2.2.1.2.1 | (have q := hS.1.2.2.1.2.1; have q0 := hS.1; simp only [up2_def]; grind)
      · first | exact hS.1.2.2.1.2.2 | (have q := hS.1.2.2.1.2.2; have q0 := hS.1; simp only [up2_def]; grind)
      · first | exact hS.1.2.2.2.1 | (have q := hS.1.2.2.2.1; have q0 := hS.1; simp only [up2_def]; grind)
      · first | exact hS.1.2.2.2.2.1 | (have q := hS.1.2.2.2.2.1; have q0 := hS.1; simp only [up2_def]; grind)
      · first | exact hS.1.2.2.2.2.2 | (have q := hS.1.2.2.2.2.2; have q0 := hS.1; simp only [up2_def]; grind)
      · first | exact hS.2.1.1 | (have q := hS.2.1.1; have q0 := hS.1; simp only [up2_def]; grind)
      · first | exact hS.2.1.2.1 | (have q := hS.2.1.2.1; have q0 := hS.1; simp only [up2_def]; grind)
      · first | exact hS.2.1.2.2.1 | (have q := hS.2.1.2.2.1; have q0 := hS.1; simp only [up2_def]; grind)
      · first | exact hS.2.1.2.2.2.1 | (have q := hS.2.1.2.2.2.1; have q0 := hS.1; simp only [up2_def]; grind)
      · first | exact hS.2.1.2.2.2.2.1 | (have q := hS.2.1.2.2.2.2.1; have q0 := hS.1; simp only [up2_def]; grind)
      · first | exact hS.2.1.2.2.2.2.2 | (have q := hS.2.1.2.2.2.2.2; have q0 := hS.1; simp only [up2_def]; grind)
      · first | exact hS.2.2.1 | (have q := hS.2.2.1; have q0 := hS.1; simp only [up2_def]; grind)
      · first | exact hS.2.2.2.1 | (have q := hS.2.2.2.1; have q0 := hS.1; simp only [up2_def]; grind)
      · first | exact hS.2.2.2.2.1 | (have q := hS.2.2.2.2.1; have q0 := hS.1; simp only [up2_def]; grind)
      · first | exact hS.2.2.2.2.2 | (have q := hS.2.2.2.2.2; have q0 := hS.1; simp only [up2_def]; grind)
    · repeat (first | rfl | refine (rs_up (by rfl)).trans ?_)
  refine ⟨-1, _, _, (S_121 (by show 0 ≤ I 45 0 ∧ I 45 0 ≤ 15; first | omega | assumption)).trans (if_neg c0), (S_296 (by show 0 ≤ I 82 8 ∧ I 82 8 ≤ 15; first | omega | assumption)).trans (if_neg (by show ¬ (I 82 8 < 15 ∧ (0 ≤ e ∧ e ≤ 1000) ∧ (0 ≤ t ∧ t ≤ 3) ∧ -100000 ≤ x ∧ x ≤ 100000 ∧ -100000 ≤ y ∧ y ≤ 100000); omega)), ⟨hT, hP, hC, hW, hL, hI, hS⟩, rfl⟩
theorem o_lamp (l : Int) (hh : InvS I) : OpR 145 308 [(0, l)] I sp rt tt z := by
  obtain ⟨hT, hP, hC, hW, hL, hI, hS⟩ := hh
  have s1 := hC.1
  by_cases c0 : I 55 4 < 60 ∧ 0 ≤ l ∧ l ≤ 9
  · refine ⟨I 55 4, _, _, (S_145 (by show 0 ≤ I 55 4 ∧ I 55 4 ≤ 60; first | omega | assumption)).trans (if_pos c0), (S_308 (by show 0 ≤ I 82 12 ∧ I 82 12 ≤ 60; first | omega | assumption)).trans ((if_pos (by show I 82 12 < 60 ∧ 0 ≤ l ∧ l ≤ 9; omega)).trans (eqv (by show I 82 12 = I 55 4; omega))), ⟨hT, hP, ?_, hW, hL, hI, hS⟩, ?_⟩
    · unfold GC
      repeat' apply And.intro
      · first | exact hC.1.1.1 | (have q := hC.1.1.1; have q0 := hC.1; simp only [up2_def]; grind)
      · first | exact hC.1.1.2.1 | (have q := hC.1.1.2.1; have q0 := hC.1; simp only [up2_def]; grind)
      · first | exact hC.1.1.2.2 | (have q := hC.1.1.2.2; have q0 := hC.1; simp only [up2_def]; grind)
      · first | exact hC.1.2.1.1 | (have q := hC.1.2.1.1; have q0 := hC.1; simp only [up2_def]; grind)
      · first | exact hC.1.2.1.2.1 | (have q := hC.1.2.1.2.1; have q0 := hC.1; simp only [up2_def]; grind)
      · first | exact hC.1.2.1.2.2 | (have q := hC.1.2.1.2.2; have q0 := hC.1; simp only [up2_def]; grind)
      · first | exact hC.1.2.2.1.1 | (have q := hC.1.2.2.1.1; have q0 := hC.1; simp only [up2_def]; grind)
      · first | exact hC.1.2.2.1.2.1 | (have q := hC.1.2.2.1.2.1; have q0 := hC.1; simp only [up2_def]; grind)
      · first | exact hC.1.2.2.1.2.2 | (have q := hC.1.2.2.1.2.2; have q0 := hC.1; simp only [up2_def]; grind)
      · first | exact hC.1.2.2.2.1 | (have q := hC.1.2.2.2.1; have q0 := hC.1; simp only [up2_def]; grind)
      · first | exact hC.1.2.2.2.2.1 | (have q := hC.1.2.2.2.2.1; have q0 := hC.1; simp only [up2_def]; grind)
      · first | exact hC.1.2.2.2.2.2 | (have q := hC.1.2.2.2.2.2; have q0 := hC.1; simp only [up2_def]; grind)
      · first | exact hC.2.1.1 | (have q := hC.2.1.1; have q0 := hC.1; simp only [up2_def]; grind)
      · first | exact hC.2.1.2.1 | (have q := hC.2.1.2.1; have q0 := hC.1; simp only [up2_def]; grind)
      · first | exact hC.2.1.2.2.1 | (have q := hC.2.1.2.2.1; have q0 := hC.1; simp only [up2_def]; grind)
      · first | exact hC.2.1.2.2.2.1 | (have q := hC.2.1.2.2.2.1; have q0 := hC.1; simp only [up2_def]; grind)
      · first | exact hC.2.1.2.2.2.2.1 | (have q := hC.2.1.2.2.2.2.1; have q0 := hC.1; simp only [up2_def]; grind)
      · first | exact hC.2.1.2.2.2.2.2.1 | (have q := hC.2.1.2.2.2.2.2.1; have q0 := hC.1; simp only [up2_def]; grind)
      · first | exact hC.2.1.2.2.2.2.2.2.1 | (have q := hC.2.1.2.2.2.2.2.2.1; have q0 := hC.1; simp only [up2_def]; grind)
      · first | exact hC.2.1.2.2.2.2.2.2.2.1 | (have q := hC.2.1.2.2.2.2.2.2.2.1; have q0 := hC.1; simp only [up2_def]; grind)
      · first | exact hC.2.1.2.2.2.2.2.2.2.2 | (have q := hC.2.1.2.2.2.2.2.2.2.2; have q0 := hC.1; simp only [up2_def]; grind)
      · first | exact hC.2.2.1 | (have q := hC.2.2.1; have q0 := hC.1; simp only [up2_def]; grind)
      · first | exact hC.2.2.2.1 | (have q := hC.2.2.2.1; have q0 := hC.1; simp only [up2_def]; grind)
      · first | exact hC.2.2.2.2.1 | (have q := hC.2.2.2.2.1; have q0 := hC.1; simp only [up2_def]; grind)
      · first | exact hC.2.2.2.2.2.1 | (have q := hC.2.2.2.2.2.1; have q0 := hC.1; simp only [up2_def]; grind)
      · first | exact hC.2.2.2.2.2.2.1 | (have q := hC.2.2.2.2.2.2.1; have q0 := hC.1; simp only [up2_def]; grind)
      · first | exact hC.2.2.2.2.2.2.2.1 | (have q := hC.2.2.2.2.2.2.2.1; have q0 := hC.1; simp only [up2_def]; grind)
      · first | exact hC.2.2.2.2.2.2.2.2 | (have q := hC.2.2.2.2.2.2.2.2; have q0 := hC.1; simp only [up2_def]; grind)
    · repeat (first | rfl | refine (rs_up (by rfl)).trans ?_)
  refine ⟨-1, _, _, (S_145 (by show 0 ≤ I 55 4 ∧ I 55 4 ≤ 60; first | omega | assumption)).trans (if_neg c0), (S_308 (by show 0 ≤ I 82 12 ∧ I 82 12 ≤ 60; first | omega | assumption)).trans (if_neg (by show ¬ (I 82 12 < 60 ∧ 0 ≤ l ∧ l ≤ 9); omega)), ⟨hT, hP, hC, hW, hL, hI, hS⟩, rfl⟩
end O2b

