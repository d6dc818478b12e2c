/-! what the small methods answer -/
theorem rb1 {p : Prop} [Decidable p] {h : Hp} (q : p) : (some (some (0, 1), h) : Option Res) = some (some (0, bz p), h) := by rw [bz_t q]
theorem rb0 {p : Prop} [Decidable p] {h : Hp} (q : ¬ p) : (some (some (0, 0), h) : Option Res) = some (some (0, bz p), h) := by rw [bz_f q]
theorem rbc {p q : Prop} [Decidable p] [Decidable q] {h : Hp} (e : p ↔ q) : (some (some (0, bz p), h) : Option Res) = some (some (0, bz q), h) := by
  by_cases c : p
  · rw [bz_t c, bz_t (e.mp c)]
  · rw [bz_f c, bz_f (fun w => c (e.mpr w))]
section S1
variable {d : Nat} {I : Nat → Nat → Int} {sp rt : Nat} {tt : Nat → Nat} {z : Zs}
theorem S_13 {a b c : Int} : Call PG (d + 1) 13 [(0, a), (0, b), (0, c)] (I, RF sp rt tt z.1, z) = some (some (0, bz (b ≤ a ∧ a ≤ c)), (I, RF sp rt tt z.1, z)) := by
  refine (K_13 ..).trans ?_
  repeat' (first | refine ci_bt (by omega) ?_ | refine ci_bf (by omega) ?_ | refine ite_b01 ?_ | refine ci_b (fun _ => ?_) (fun _ => ?_) | refine ci_t (by omega) ?_ | refine ci_f (by omega) ?_ | refine ite_t (by omega) ?_ | refine ite_f (by omega) ?_ | refine (T_13_0 ..).trans ?_ | refine ci_c (fun _ => ?_) (fun _ => ?_))
  all_goals first | exact rb1 (by omega) | exact rb0 (by omega) | exact rbc (by omega)
theorem S_18 {p : Int} : Call PG (d + 1) 18 [(2, 2), (0, p)] (I, RF sp rt tt z.1, z) = some (some (0, bz (0 ≤ p ∧ p < I 2 6)), (I, RF sp rt tt z.1, z)) := by
  refine (K_18 ..).trans ?_
  repeat' (first | refine ci_bt (by omega) ?_ | refine ci_bf (by omega) ?_ | refine ite_b01 ?_ | refine ci_b (fun _ => ?_) (fun _ => ?_) | refine ci_t (by omega) ?_ | refine ci_f (by omega) ?_ | refine ite_t (by omega) ?_ | refine ite_f (by omega) ?_ | refine (T_18_0 ..).trans ?_ | refine ci_c (fun _ => ?_) (fun _ => ?_))
  all_goals first | exact rb1 (by omega) | exact rb0 (by omega) | exact rbc (by omega)
theorem S_24 : Call PG (d + 1) 24 [(2, 9)] (I, RF sp rt tt z.1, z) = some (some (0, bz (30 ≤ I 9 1)), (I, RF sp rt tt z.1, z)) := by
  refine (K_24 ..).trans ?_
  repeat' (first | refine ci_bt (by omega) ?_ | refine ci_bf (by omega) ?_ | refine ite_b01 ?_ | refine ci_b (fun _ => ?_) (fun _ => ?_) | refine ci_t (by omega) ?_ | refine ci_f (by omega) ?_ | refine ite_t (by omega) ?_ | refine ite_f (by omega) ?_ | refine (T_24_0 ..).trans ?_ | refine ci_c (fun _ => ?_) (fun _ => ?_))
  all_goals first | exact rb1 (by omega) | exact rb0 (by omega) | exact rbc (by omega)
theorem S_34 {x : Int} : Call PG (d + 1) 34 [(0, x)] (I, RF sp rt tt z.1, z) = some (some (0, bz (48 ≤ x ∧ x ≤ 57)), (I, RF sp rt tt z.1, z)) := by
  refine (K_34 ..).trans ?_
  repeat' (first | refine ci_bt (by omega) ?_ | refine ci_bf (by omega) ?_ | refine ite_b01 ?_ | refine ci_b (fun _ => ?_) (fun _ => ?_) | refine ci_t (by omega) ?_ | refine ci_f (by omega) ?_ | refine ite_t (by omega) ?_ | refine ite_f (by omega) ?_ | refine (T_34_0 ..).trans ?_ | refine ci_c (fun _ => ?_) (fun _ => ?_))
  all_goals first | exact rb1 (by omega) | exact rb0 (by omega) | exact rbc (by omega)
theorem S_46 {p : Int} : Call PG (d + 1) 46 [(2, 9), (0, p)] (I, RF sp rt tt z.1, z) = some (some (0, bz (0 ≤ p ∧ p < I 9 1)), (I, RF sp rt tt z.1, z)) := by
  refine (K_46 ..).trans ?_
  repeat' (first | refine ci_bt (by omega) ?_ | refine ci_bf (by omega) ?_ | refine ite_b01 ?_ | refine ci_b (fun _ => ?_) (fun _ => ?_) | refine ci_t (by omega) ?_ | refine ci_f (by omega) ?_ | refine ite_t (by omega) ?_ | refine ite_f (by omega) ?_ | refine (T_46_0 ..).trans ?_ | refine ci_c (fun _ => ?_) (fun _ => ?_))
  all_goals first | exact rb1 (by omega) | exact rb0 (by omega) | exact rbc (by omega)
theorem S_47 : Call PG (d + 1) 47 [(2, 0)] (I, RF sp rt tt z.1, z) = some (some (0, w32 (Int.tdiv (I 0 0) 1440)), (I, RF sp rt tt z.1, z)) := by
  refine (K_47 ..).trans ?_
  repeat' (first | refine ci_bt (by omega) ?_ | refine ci_bf (by omega) ?_ | refine ite_b01 ?_ | refine ci_b (fun _ => ?_) (fun _ => ?_) | refine ci_t (by omega) ?_ | refine ci_f (by omega) ?_ | refine ite_t (by omega) ?_ | refine ite_f (by omega) ?_ | refine (T_47_0 ..).trans ?_ | refine ci_c (fun _ => ?_) (fun _ => ?_))
  all_goals rfl
theorem S_50 {t : Nat} {day : Int} (ht : (LAY t).1 = 3) : Call PG (d + 1) 50 [(2, ((t : Nat) : Int)), (0, day)] (I, RF sp rt tt z.1, z) = some (some (0, bz (I t 1 ≤ day ∧ day ≤ I t 2)), (I, RF sp rt tt z.1, z)) := by
  refine (K_50 ..).trans ?_
  repeat' (first | refine ci_bt (by omega) ?_ | refine ci_bf (by omega) ?_ | refine ite_b01 ?_ | refine ci_b (fun _ => ?_) (fun _ => ?_) | refine ci_t (by omega) ?_ | refine ci_f (by omega) ?_ | refine ite_t (by omega) ?_ | refine ite_f (by omega) ?_ | refine ite_t (by assumption) ?_ | refine ite_t (decide_eq_true (by assumption)) ?_ | refine nn_t (by assumption) ?_ | refine (T_50_0 ..).trans ?_ | refine ci_c (fun _ => ?_) (fun _ => ?_))
  all_goals first | exact rb1 (by omega) | exact rb0 (by omega) | exact rbc (by omega)
theorem S_49 {t : Nat} {p day : Int} (ht : (LAY t).1 = 3) : Call PG (d + 2) 49 [(2, ((t : Nat) : Int)), (0, p), (0, day)] (I, RF sp rt tt z.1, z) = some (some (0, bz ((I t 0 = -1 ∨ I t 0 = p) ∧ I t 1 ≤ day ∧ day ≤ I t 2)), (I, RF sp rt tt z.1, z)) := by
  refine (K_49 ..).trans ?_
  repeat' (first | refine ci_bt (by omega) ?_ | refine ci_bf (by omega) ?_ | refine ite_b01 ?_ | refine ci_b (fun _ => ?_) (fun _ => ?_) | refine ci_t (by omega) ?_ | refine ci_f (by omega) ?_ | refine ite_t (by omega) ?_ | refine ite_f (by omega) ?_ | refine ite_t (by assumption) ?_ | refine ite_t (decide_eq_true (by assumption)) ?_ | refine nn_t (by assumption) ?_ | refine bd_t (S_50 (by assumption)) ?_ | refine (T_49_0 ..).trans ?_ | refine (T_49_21 ..).trans ?_ | refine ci_c (fun _ => ?_) (fun _ => ?_))
  all_goals first | exact rb1 (by omega) | exact rb0 (by omega) | exact rbc (by omega)
theorem S_52 {t : Nat} {j : Int} (ht : (LAY t).1 = 3) : Call PG (d + 1) 52 [(2, ((t : Nat) : Int)), (0, j)] (I, RF sp rt tt z.1, z) = some (some (0, bz (¬ ia32 (shr32 (I t 13) j) 1 = 0)), (I, RF sp rt tt z.1, z)) := by
  refine (K_52 ..).trans ?_
  repeat' (first | refine ci_bt (by omega) ?_ | refine ci_bf (by omega) ?_ | refine ite_b01 ?_ | refine ci_b (fun _ => ?_) (fun _ => ?_) | refine ci_t (by omega) ?_ | refine ci_f (by omega) ?_ | refine ite_t (by omega) ?_ | refine ite_f (by omega) ?_ | refine ite_t (by assumption) ?_ | refine ite_t (decide_eq_true (by assumption)) ?_ | refine nn_t (by assumption) ?_ | refine (T_52_0 ..).trans ?_ | refine ci_c (fun _ => ?_) (fun _ => ?_))
  all_goals first | exact rb1 (by omega) | exact rb0 (by omega) | exact rbc (by omega)
theorem S_57 {j : Int} : Call PG (d + 1) 57 [(2, 9), (0, j)] (I, RF sp rt tt z.1, z) = some (some (0, bz (¬ ia32 (shr32 (I 9 5) j) 1 = 0)), (I, RF sp rt tt z.1, z)) := by
  refine (K_57 ..).trans ?_
  repeat' (first | refine ci_bt (by omega) ?_ | refine ci_bf (by omega) ?_ | refine ite_b01 ?_ | refine ci_b (fun _ => ?_) (fun _ => ?_) | refine ci_t (by omega) ?_ | refine ci_f (by omega) ?_ | refine ite_t (by omega) ?_ | refine ite_f (by omega) ?_ | refine (T_57_0 ..).trans ?_ | refine ci_c (fun _ => ?_) (fun _ => ?_))
  all_goals first | exact rb1 (by omega) | exact rb0 (by omega) | exact rbc (by omega)
theorem S_62 {r : Int} (hr : 0 ≤ r ∧ r < 150) : Call PG (d + 1) 62 [(2, 25), (0, r)] (I, RF sp rt tt z.1, z) = some (some (0, bz (¬ I 32 r.toNat = 1)), (I, RF sp rt tt z.1, z)) := by
  refine (K_62 ..).trans ?_
  repeat' (first | refine ci_bt (by omega) ?_ | refine ci_bf (by omega) ?_ | refine ite_b01 ?_ | refine ci_b (fun _ => ?_) (fun _ => ?_) | refine ci_t (by omega) ?_ | refine ci_f (by omega) ?_ | refine ite_t (by omega) ?_ | refine ite_f (by omega) ?_ | refine (T_62_0 ..).trans ?_ | refine ci_c (fun _ => ?_) (fun _ => ?_))
  all_goals first | exact rb1 (by omega) | exact rb0 (by omega) | exact rbc (by omega)
theorem S_71 {e : Int} : Call PG (d + 1) 71 [(0, e)] (I, RF sp rt tt z.1, z) = some (some (0, if ia32 e 1 = 0 then 1 else -1), (I, RF sp rt tt z.1, z)) := by
  refine (K_71 ..).trans ?_
  repeat' (first | refine ci_bt (by omega) ?_ | refine ci_bf (by omega) ?_ | refine ite_b01 ?_ | refine ci_b (fun _ => ?_) (fun _ => ?_) | refine ci_t (by omega) ?_ | refine ci_f (by omega) ?_ | refine ite_t (by omega) ?_ | refine ite_f (by omega) ?_ | refine (T_71_0 ..).trans ?_ | refine ci_c (fun _ => ?_) (fun _ => ?_))
  · rw [if_pos (by assumption)]
  · rw [if_neg (by assumption)]
theorem S_102 {p : Int} : Call PG (d + 1) 102 [(2, 25), (0, p)] (I, RF sp rt tt z.1, z) = some (some (0, bz (0 ≤ p ∧ p < I 25 0)), (I, RF sp rt tt z.1, z)) := by
  refine (K_102 ..).trans ?_
  repeat' (first | refine ci_bt (by omega) ?_ | refine ci_bf (by omega) ?_ | refine ite_b01 ?_ | refine ci_b (fun _ => ?_) (fun _ => ?_) | refine ci_t (by omega) ?_ | refine ci_f (by omega) ?_ | refine ite_t (by omega) ?_ | refine ite_f (by omega) ?_ | refine (T_102_0 ..).trans ?_ | refine ci_c (fun _ => ?_) (fun _ => ?_))
  all_goals first | exact rb1 (by omega) | exact rb0 (by omega) | exact rbc (by omega)
theorem S_108 {p : Int} : Call PG (d + 1) 108 [(2, 25), (0, p)] (I, RF sp rt tt z.1, z) = some (some (0, bz (0 ≤ p ∧ p < I 25 1)), (I, RF sp rt tt z.1, z)) := by
  refine (K_108 ..).trans ?_
  repeat' (first | refine ci_bt (by omega) ?_ | refine ci_bf (by omega) ?_ | refine ite_b01 ?_ | refine ci_b (fun _ => ?_) (fun _ => ?_) | refine ci_t (by omega) ?_ | refine ci_f (by omega) ?_ | refine ite_t (by omega) ?_ | refine ite_f (by omega) ?_ | refine (T_108_0 ..).trans ?_ | refine ci_c (fun _ => ?_) (fun _ => ?_))
  all_goals first | exact rb1 (by omega) | exact rb0 (by omega) | exact rbc (by omega)
theorem S_107 {p : Int} (h : I 25 1 ≤ 150) : Call PG (d + 2) 107 [(2, 25), (0, p)] (I, RF sp rt tt z.1, z) = some (some (0, bz (0 ≤ p ∧ p < I 25 1 ∧ ¬ I 32 p.toNat = 0)), (I, RF sp rt tt z.1, z)) := by
  refine (K_107 ..).trans ?_
  repeat' (first | refine ci_bt (by omega) ?_ | refine ci_bf (by omega) ?_ | refine ite_b01 ?_ | refine ci_b (fun _ => ?_) (fun _ => ?_) | refine ci_t (by omega) ?_ | refine ci_f (by omega) ?_ | refine ite_t (by omega) ?_ | refine ite_f (by omega) ?_ | refine bd_t (S_108) ?_ | refine (T_107_0 ..).trans ?_ | refine (T_107_5 ..).trans ?_ | refine ci_c (fun _ => ?_) (fun _ => ?_))
  all_goals first | exact rb1 (by omega) | exact rb0 (by omega) | exact rbc (by omega)
theorem S_103 {a p : Int} (h : I 25 0 ≤ 80) : Call PG (d + 2) 103 [(2, 25), (0, a), (0, p)] (I, RF sp rt tt z.1, z) = some (some (0, bz (0 ≤ a ∧ a < I 25 0 ∧ I 33 a.toNat = p)), (I, RF sp rt tt z.1, z)) := by
  refine (K_103 ..).trans ?_
  repeat' (first | refine ci_bt (by omega) ?_ | refine ci_bf (by omega) ?_ | refine ite_b01 ?_ | refine ci_b (fun _ => ?_) (fun _ => ?_) | refine ci_t (by omega) ?_ | refine ci_f (by omega) ?_ | refine ite_t (by omega) ?_ | refine ite_f (by omega) ?_ | refine bd_t (S_102) ?_ | refine (T_103_0 ..).trans ?_ | refine (T_103_5 ..).trans ?_ | refine ci_c (fun _ => ?_) (fun _ => ?_))
  all_goals first | exact rb1 (by omega) | exact rb0 (by omega) | exact rbc (by omega)
theorem S_67 {a : Int} (h : 0 ≤ a ∧ a < 80) (h2 : 0 ≤ I 33 a.toNat ∧ I 33 a.toNat < 12) : Call PG (d + 1) 67 [(2, 25), (0, a)] (I, RF sp rt tt z.1, z) = some (some (0, bz (I 34 (I 33 a.toNat).toNat = a)), (I, RF sp rt tt z.1, z)) := by
  refine (K_67 ..).trans ?_
  repeat' (first | refine ci_bt (by omega) ?_ | refine ci_bf (by omega) ?_ | refine ite_b01 ?_ | refine ci_b (fun _ => ?_) (fun _ => ?_) | refine ci_t (by omega) ?_ | refine ci_f (by omega) ?_ | refine ite_t (by omega) ?_ | refine ite_f (by omega) ?_ | refine (T_67_0 ..).trans ?_ | refine ci_c (fun _ => ?_) (fun _ => ?_))
  all_goals first | exact rb1 (by omega) | exact rb0 (by omega) | exact rbc (by omega)
theorem S_133 {p : Int} : Call PG (d + 1) 133 [(2, 45), (0, p)] (I, RF sp rt tt z.1, z) = some (some (0, bz (0 ≤ p ∧ p < I 45 2)), (I, RF sp rt tt z.1, z)) := by
  refine (K_133 ..).trans ?_
  repeat' (first | refine ci_bt (by omega) ?_ | refine ci_bf (by omega) ?_ | refine ite_b01 ?_ | refine ci_b (fun _ => ?_) (fun _ => ?_) | refine ci_t (by omega) ?_ | refine ci_f (by omega) ?_ | refine ite_t (by omega) ?_ | refine ite_f (by omega) ?_ | refine (T_133_0 ..).trans ?_ | refine ci_c (fun _ => ?_) (fun _ => ?_))
  all_goals first | exact rb1 (by omega) | exact rb0 (by omega) | exact rbc (by omega)
theorem S_134 {p : Int} : Call PG (d + 1) 134 [(2, 45), (0, p)] (I, RF sp rt tt z.1, z) = some (some (0, bz (0 ≤ p ∧ p < I 45 1)), (I, RF sp rt tt z.1, z)) := by
  refine (K_134 ..).trans ?_
  repeat' (first | refine ci_bt (by omega) ?_ | refine ci_bf (by omega) ?_ | refine ite_b01 ?_ | refine ci_b (fun _ => ?_) (fun _ => ?_) | refine ci_t (by omega) ?_ | refine ci_f (by omega) ?_ | refine ite_t (by omega) ?_ | refine ite_f (by omega) ?_ | refine (T_134_0 ..).trans ?_ | refine ci_c (fun _ => ?_) (fun _ => ?_))
  all_goals first | exact rb1 (by omega) | exact rb0 (by omega) | exact rbc (by omega)
theorem S_123 {x y : Int} : Call PG (d + 2) 123 [(0, x), (0, y)] (I, RF sp rt tt z.1, z) = some (some (0, bz (-100000 ≤ x ∧ x ≤ 100000 ∧ -100000 ≤ y ∧ y ≤ 100000)), (I, RF sp rt tt z.1, z)) := by
  refine (K_123 ..).trans ?_
  repeat' (first | refine ci_bt (by omega) ?_ | refine ci_bf (by omega) ?_ | refine ite_b01 ?_ | refine ci_b (fun _ => ?_) (fun _ => ?_) | refine ci_t (by omega) ?_ | refine ci_f (by omega) ?_ | refine ite_t (by omega) ?_ | refine ite_f (by omega) ?_ | refine bd_t (S_13) ?_ | refine (T_123_0 ..).trans ?_ | refine (T_123_8 ..).trans ?_ | refine (T_123_19 ..).trans ?_ | refine ci_c (fun _ => ?_) (fun _ => ?_))
  all_goals first | exact rb1 (by omega) | exact rb0 (by omega) | exact rbc (by omega)
theorem S_126 {k x y : Int} : Call PG (d + 3) 126 [(2, 45), (0, k), (0, x), (0, y)] (I, RF sp rt tt z.1, z) = some (some (0, bz (0 ≤ k ∧ k < I 45 0 ∧ -100000 ≤ x ∧ x ≤ 100000 ∧ -100000 ≤ y ∧ y ≤ 100000)), (I, RF sp rt tt z.1, z)) := by
  refine (K_126 ..).trans ?_
  repeat' (first | refine ci_bt (by omega) ?_ | refine ci_bf (by omega) ?_ | refine ite_b01 ?_ | refine ci_b (fun _ => ?_) (fun _ => ?_) | refine ci_t (by omega) ?_ | refine ci_f (by omega) ?_ | refine ite_t (by omega) ?_ | refine ite_f (by omega) ?_ | refine bd_t (S_123) ?_ | refine (T_126_0 ..).trans ?_ | refine (T_126_17 ..).trans ?_ | refine ci_c (fun _ => ?_) (fun _ => ?_))
  all_goals first | exact rb1 (by omega) | exact rb0 (by omega) | exact rbc (by omega)
theorem S_149 {p : Int} : Call PG (d + 1) 149 [(2, 55), (0, p)] (I, RF sp rt tt z.1, z) = some (some (0, bz (0 ≤ p ∧ p < I 55 0)), (I, RF sp rt tt z.1, z)) := by
  refine (K_149 ..).trans ?_
  repeat' (first | refine ci_bt (by omega) ?_ | refine ci_bf (by omega) ?_ | refine ite_b01 ?_ | refine ci_b (fun _ => ?_) (fun _ => ?_) | refine ci_t (by omega) ?_ | refine ci_f (by omega) ?_ | refine ite_t (by omega) ?_ | refine ite_f (by omega) ?_ | refine (T_149_0 ..).trans ?_ | refine ci_c (fun _ => ?_) (fun _ => ?_))
  all_goals first | exact rb1 (by omega) | exact rb0 (by omega) | exact rbc (by omega)
theorem S_150 {p : Int} (h : 0 ≤ p ∧ p < 40) : Call PG (d + 1) 150 [(2, 55), (0, p)] (I, RF sp rt tt z.1, z) = some (some (0, bz (¬ I 58 p.toNat = -1)), (I, RF sp rt tt z.1, z)) := by
  refine (K_150 ..).trans ?_
  repeat' (first | refine ci_bt (by omega) ?_ | refine ci_bf (by omega) ?_ | refine ite_b01 ?_ | refine ci_b (fun _ => ?_) (fun _ => ?_) | refine ci_t (by omega) ?_ | refine ci_f (by omega) ?_ | refine ite_t (by omega) ?_ | refine ite_f (by omega) ?_ | refine (T_150_0 ..).trans ?_ | refine ci_c (fun _ => ?_) (fun _ => ?_))
  all_goals first | exact rb1 (by omega) | exact rb0 (by omega) | exact rbc (by omega)
theorem S_153 {p : Int} (h : 0 ≤ p ∧ p < 40) (h2 : -1 ≤ I 58 p.toNat ∧ I 58 p.toNat < 300) : Call PG (d + 2) 153 [(2, 55), (0, p)] (I, RF sp rt tt z.1, z) = some (some (0, if I 58 p.toNat = -1 then -1 else I 62 (I 58 p.toNat).toNat), (I, RF sp rt tt z.1, z)) := by
  refine (K_153 ..).trans ?_
  repeat' (first | refine ci_bt (by omega) ?_ | refine ci_bf (by omega) ?_ | refine ite_b01 ?_ | refine ci_b (fun _ => ?_) (fun _ => ?_) | refine ci_t (by omega) ?_ | refine ci_f (by omega) ?_ | refine ite_t (by omega) ?_ | refine ite_f (by omega) ?_ | refine bd_t (S_150 (by omega)) ?_ | refine (T_153_0 ..).trans ?_ | refine (T_153_5 ..).trans ?_ | refine ci_c (fun _ => ?_) (fun _ => ?_))
  all_goals first | rw [if_pos (by omega)] | rw [if_neg (by omega)]
theorem S_153b {p : Int} (h : 0 ≤ p ∧ p < 40) (h2 : -1 ≤ I 58 p.toNat ∧ I 58 p.toNat < 300) (h3 : ¬ I 58 p.toNat = -1) : Call PG (d + 2) 153 [(2, 55), (0, p)] (I, RF sp rt tt z.1, z) = some (some (0, I 62 (I 58 p.toNat).toNat), (I, RF sp rt tt z.1, z)) := (S_153 h h2).trans (by rw [if_neg h3])
theorem S_166 {p : Int} : Call PG (d + 1) 166 [(2, 68), (0, p)] (I, RF sp rt tt z.1, z) = some (some (0, bz (0 ≤ p ∧ p < I 68 0)), (I, RF sp rt tt z.1, z)) := by
  refine (K_166 ..).trans ?_
  repeat' (first | refine ci_bt (by omega) ?_ | refine ci_bf (by omega) ?_ | refine ite_b01 ?_ | refine ci_b (fun _ => ?_) (fun _ => ?_) | refine ci_t (by omega) ?_ | refine ci_f (by omega) ?_ | refine ite_t (by omega) ?_ | refine ite_f (by omega) ?_ | refine (T_166_0 ..).trans ?_ | refine ci_c (fun _ => ?_) (fun _ => ?_))
  all_goals first | exact rb1 (by omega) | exact rb0 (by omega) | exact rbc (by omega)
theorem S_168 {w h : Int} (h1 : 0 ≤ w ∧ w < 60) (h2 : 0 ≤ h ∧ h < 40) : Call PG (d + 1) 168 [(2, 68), (0, w), (0, h)] (I, RF sp rt tt z.1, z) = some (some (0, bz (¬ I 70 (40 * w + h).toNat = -1)), (I, RF sp rt tt z.1, z)) := by
  refine (K_168 ..).trans ?_
  have e : w32 (w32 (w * 40) + h) = 40 * w + h := by simp (disch := omega) only [w32_of]; omega
  refine (T_168_0 ..).trans ?_
  rw [e]
  repeat' (first | refine ci_bt (by omega) ?_ | refine ci_bf (by omega) ?_ | refine ite_b01 ?_ | refine ci_b (fun _ => ?_) (fun _ => ?_) | refine ci_t (by omega) ?_ | refine ci_f (by omega) ?_ | refine ite_t (by omega) ?_ | refine ite_f (by omega) ?_ | refine (T_168_0 ..).trans ?_ | refine ci_c (fun _ => ?_) (fun _ => ?_))
  all_goals first | exact rb1 (by omega) | exact rb0 (by omega) | exact rbc (by omega)
theorem S_171 {w h : Int} (h1 : 0 ≤ w ∧ w < 60) : Call PG (d + 1) 171 [(2, 68), (0, w), (0, h)] (I, RF sp rt tt z.1, z) = some (some (0, bz (¬ ia64 (shr64 (I 71 w.toNat) h) 1 = 0)), (I, RF sp rt tt z.1, z)) := by
  refine (K_171 ..).trans ?_
  repeat' (first | simp only [lcm_lt, lcm_le, lcm_eq] | refine ci_bt (by omega) ?_ | refine ci_bf (by omega) ?_ | refine ite_b01 ?_ | refine ci_b (fun _ => ?_) (fun _ => ?_) | refine ci_t (by omega) ?_ | refine ci_f (by omega) ?_ | refine ite_t (by omega) ?_ | refine ite_f (by omega) ?_ | refine (T_171_0 ..).trans ?_ | refine ci_c (fun _ => ?_) (fun _ => ?_))
  all_goals first | exact rb1 (by omega) | exact rb0 (by omega) | exact rbc (by omega)
theorem S_188 {p : Int} : Call PG (d + 1) 188 [(2, 72), (0, p)] (I, RF sp rt tt z.1, z) = some (some (0, bz (¬ ia32 (shr32 (I 72 6) p) 1 = 0)), (I, RF sp rt tt z.1, z)) := by
  refine (K_188 ..).trans ?_
  repeat' (first | refine ci_bt (by omega) ?_ | refine ci_bf (by omega) ?_ | refine ite_b01 ?_ | refine ci_b (fun _ => ?_) (fun _ => ?_) | refine ci_t (by omega) ?_ | refine ci_f (by omega) ?_ | refine ite_t (by omega) ?_ | refine ite_f (by omega) ?_ | refine (T_188_0 ..).trans ?_ | refine ci_c (fun _ => ?_) (fun _ => ?_))
  all_goals first | exact rb1 (by omega) | exact rb0 (by omega) | exact rbc (by omega)
/-! the reference's -/
theorem S_209 {a b c : Int} : Call PG (d + 1) 209 [(1, a), (1, b), (1, c)] (I, RF sp rt tt z.1, z) = some (some (0, bz (b ≤ a ∧ a ≤ c)), (I, RF sp rt tt z.1, z)) := by
  refine (K_209 ..).trans ?_
  repeat' (first | simp only [lcm_lt, lcm_le, lcm_eq] | refine ci_bt (by omega) ?_ | refine ci_bf (by omega) ?_ | refine ite_b01 ?_ | refine ci_b (fun _ => ?_) (fun _ => ?_) | refine ci_t (by omega) ?_ | refine ci_f (by omega) ?_ | refine ite_t (by omega) ?_ | refine ite_f (by omega) ?_ | refine (T_209_0 ..).trans ?_ | refine ci_c (fun _ => ?_) (fun _ => ?_))
  all_goals first | exact rb1 (by omega) | exact rb0 (by omega) | exact rbc (by omega)
theorem S_212 {p : Int} (h : 0 ≤ I 82 3 ∧ I 82 3 ≤ 5000) : Call PG (d + 2) 212 [(2, 82), (0, p)] (I, RF sp rt tt z.1, z) = some (some (0, bz (0 ≤ p ∧ p < I 82 3)), (I, RF sp rt tt z.1, z)) := by
  refine (K_212 ..).trans ?_
  have e : w32 (I 82 3 - 1) = I 82 3 - 1 := w32_of (by omega) (by omega)
  refine (T_212_0 ..).trans ?_
  rw [e]
  repeat' (first | refine ci_bt (by omega) ?_ | refine ci_bf (by omega) ?_ | refine ite_b01 ?_ | refine ci_b (fun _ => ?_) (fun _ => ?_) | refine ci_t (by omega) ?_ | refine ci_f (by omega) ?_ | refine ite_t (by omega) ?_ | refine ite_f (by omega) ?_ | refine bd_t (S_209) ?_ | refine (T_212_0 ..).trans ?_ | refine (T_212_13 ..).trans ?_ | refine ci_c (fun _ => ?_) (fun _ => ?_))
  all_goals first | exact rb1 (by omega) | exact rb0 (by omega) | exact rbc (by omega)
theorem S_310 {p : Int} (h : 0 ≤ I 82 4 ∧ I 82 4 ≤ 5000) : Call PG (d + 2) 310 [(2, 82), (0, p)] (I, RF sp rt tt z.1, z) = some (some (0, bz (0 ≤ p ∧ p < I 82 4)), (I, RF sp rt tt z.1, z)) := by
  refine (K_310 ..).trans ?_
  have e : w32 (I 82 4 - 1) = I 82 4 - 1 := w32_of (by omega) (by omega)
  refine (T_310_0 ..).trans ?_
  rw [e]
  repeat' (first | refine ci_bt (by omega) ?_ | refine ci_bf (by omega) ?_ | refine ite_b01 ?_ | refine ci_b (fun _ => ?_) (fun _ => ?_) | refine ci_t (by omega) ?_ | refine ci_f (by omega) ?_ | refine ite_t (by omega) ?_ | refine ite_f (by omega) ?_ | refine bd_t (S_209) ?_ | refine (T_310_0 ..).trans ?_ | refine (T_310_13 ..).trans ?_ | refine ci_c (fun _ => ?_) (fun _ => ?_))
  all_goals first | exact rb1 (by omega) | exact rb0 (by omega) | exact rbc (by omega)
theorem S_286 {p : Int} (h : 0 ≤ I 82 6 ∧ I 82 6 ≤ 5000) : Call PG (d + 2) 286 [(2, 82), (0, p)] (I, RF sp rt tt z.1, z) = some (some (0, bz (0 ≤ p ∧ p < I 82 6)), (I, RF sp rt tt z.1, z)) := by
  refine (K_286 ..).trans ?_
  have e : w32 (I 82 6 - 1) = I 82 6 - 1 := w32_of (by omega) (by omega)
  refine (T_286_0 ..).trans ?_
  rw [e]
  repeat' (first | refine ci_bt (by omega) ?_ | refine ci_bf (by omega) ?_ | refine ite_b01 ?_ | refine ci_b (fun _ => ?_) (fun _ => ?_) | refine ci_t (by omega) ?_ | refine ci_f (by omega) ?_ | refine ite_t (by omega) ?_ | refine ite_f (by omega) ?_ | refine bd_t (S_209) ?_ | refine (T_286_0 ..).trans ?_ | refine (T_286_13 ..).trans ?_ | refine ci_c (fun _ => ?_) (fun _ => ?_))
  all_goals first | exact rb1 (by omega) | exact rb0 (by omega) | exact rbc (by omega)
theorem S_288 {p : Int} (h : 0 ≤ I 82 7 ∧ I 82 7 ≤ 5000) : Call PG (d + 2) 288 [(2, 82), (0, p)] (I, RF sp rt tt z.1, z) = some (some (0, bz (0 ≤ p ∧ p < I 82 7)), (I, RF sp rt tt z.1, z)) := by
  refine (K_288 ..).trans ?_
  have e : w32 (I 82 7 - 1) = I 82 7 - 1 := w32_of (by omega) (by omega)
  refine (T_288_0 ..).trans ?_
  rw [e]
  repeat' (first | refine ci_bt (by omega) ?_ | refine ci_bf (by omega) ?_ | refine ite_b01 ?_ | refine ci_b (fun _ => ?_) (fun _ => ?_) | refine ci_t (by omega) ?_ | refine ci_f (by omega) ?_ | refine ite_t (by omega) ?_ | refine ite_f (by omega) ?_ | refine bd_t (S_209) ?_ | refine (T_288_0 ..).trans ?_ | refine (T_288_13 ..).trans ?_ | refine ci_c (fun _ => ?_) (fun _ => ?_))
  all_goals first | exact rb1 (by omega) | exact rb0 (by omega) | exact rbc (by omega)
theorem S_299 {p : Int} (h : 0 ≤ I 82 8 ∧ I 82 8 ≤ 5000) : Call PG (d + 2) 299 [(2, 82), (0, p)] (I, RF sp rt tt z.1, z) = some (some (0, bz (0 ≤ p ∧ p < I 82 8)), (I, RF sp rt tt z.1, z)) := by
  refine (K_299 ..).trans ?_
  have e : w32 (I 82 8 - 1) = I 82 8 - 1 := w32_of (by omega) (by omega)
  refine (T_299_0 ..).trans ?_
  rw [e]
  repeat' (first | refine ci_bt (by omega) ?_ | refine ci_bf (by omega) ?_ | refine ite_b01 ?_ | refine ci_b (fun _ => ?_) (fun _ => ?_) | refine ci_t (by omega) ?_ | refine ci_f (by omega) ?_ | refine ite_t (by omega) ?_ | refine ite_f (by omega) ?_ | refine bd_t (S_209) ?_ | refine (T_299_0 ..).trans ?_ | refine (T_299_13 ..).trans ?_ | refine ci_c (fun _ => ?_) (fun _ => ?_))
  all_goals first | exact rb1 (by omega) | exact rb0 (by omega) | exact rbc (by omega)
theorem S_320 {p : Int} (h : 0 ≤ I 82 15 ∧ I 82 15 ≤ 5000) : Call PG (d + 2) 320 [(2, 82), (0, p)] (I, RF sp rt tt z.1, z) = some (some (0, bz (0 ≤ p ∧ p < I 82 15)), (I, RF sp rt tt z.1, z)) := by
  refine (K_320 ..).trans ?_
  have e : w32 (I 82 15 - 1) = I 82 15 - 1 := w32_of (by omega) (by omega)
  refine (T_320_0 ..).trans ?_
  rw [e]
  repeat' (first | refine ci_bt (by omega) ?_ | refine ci_bf (by omega) ?_ | refine ite_b01 ?_ | refine ci_b (fun _ => ?_) (fun _ => ?_) | refine ci_t (by omega) ?_ | refine ci_f (by omega) ?_ | refine ite_t (by omega) ?_ | refine ite_f (by omega) ?_ | refine bd_t (S_209) ?_ | refine (T_320_0 ..).trans ?_ | refine (T_320_13 ..).trans ?_ | refine ci_c (fun _ => ?_) (fun _ => ?_))
  all_goals first | exact rb1 (by omega) | exact rb0 (by omega) | exact rbc (by omega)
theorem S_241 {p : Int} (h : 0 ≤ I 82 5 ∧ I 82 5 ≤ 5000) : Call PG (d + 2) 241 [(2, 82), (0, p)] (I, RF sp rt tt z.1, z) = some (some (0, bz (0 ≤ p ∧ p < I 82 5)), (I, RF sp rt tt z.1, z)) := by
  refine (K_241 ..).trans ?_
  have e : w32 (I 82 5 - 1) = I 82 5 - 1 := w32_of (by omega) (by omega)
  refine (T_241_0 ..).trans ?_
  rw [e]
  repeat' (first | refine ci_bt (by omega) ?_ | refine ci_bf (by omega) ?_ | refine ite_b01 ?_ | refine ci_b (fun _ => ?_) (fun _ => ?_) | refine ci_t (by omega) ?_ | refine ci_f (by omega) ?_ | refine ite_t (by omega) ?_ | refine ite_f (by omega) ?_ | refine bd_t (S_209) ?_ | refine (T_241_0 ..).trans ?_ | refine (T_241_13 ..).trans ?_ | refine ci_c (fun _ => ?_) (fun _ => ?_))
  all_goals first | exact rb1 (by omega) | exact rb0 (by omega) | exact rbc (by omega)
theorem S_271 {v : Int} : Call PG (d + 1) 271 [(0, v)] (I, RF sp rt tt z.1, z) = some (some (0, if v < 0 then w32 (-v) else v), (I, RF sp rt tt z.1, z)) := by
  refine (K_271 ..).trans ?_
  repeat' (first | refine ci_bt (by omega) ?_ | refine ci_bf (by omega) ?_ | refine ite_b01 ?_ | refine ci_b (fun _ => ?_) (fun _ => ?_) | refine ci_t (by omega) ?_ | refine ci_f (by omega) ?_ | refine ite_t (by omega) ?_ | refine ite_f (by omega) ?_ | refine (T_271_0 ..).trans ?_ | refine ci_c (fun _ => ?_) (fun _ => ?_))
  all_goals first | rw [if_pos (by omega)] | rw [if_neg (by omega)]
theorem S_297 {x y : Int} : Call PG (d + 2) 297 [(0, x), (0, y)] (I, RF sp rt tt z.1, z) = some (some (0, bz (-100000 ≤ x ∧ x ≤ 100000 ∧ -100000 ≤ y ∧ y ≤ 100000)), (I, RF sp rt tt z.1, z)) := by
  refine (K_297 ..).trans ?_
  repeat' (first | refine ci_bt (by omega) ?_ | refine ci_bf (by omega) ?_ | refine ite_b01 ?_ | refine ci_b (fun _ => ?_) (fun _ => ?_) | refine ci_t (by omega) ?_ | refine ci_f (by omega) ?_ | refine ite_t (by omega) ?_ | refine ite_f (by omega) ?_ | refine bd_t (S_209) ?_ | refine (T_297_0 ..).trans ?_ | refine (T_297_11 ..).trans ?_ | refine (T_297_25 ..).trans ?_ | refine ci_c (fun _ => ?_) (fun _ => ?_))
  all_goals first | exact rb1 (by omega) | exact rb0 (by omega) | exact rbc (by omega)
end S1

