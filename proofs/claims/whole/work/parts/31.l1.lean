/-! loops that count -/
section L1
variable {d : Nat} {I : Nat → Nat → Int} {sp rt : Nat} {tt : Nat → Nat} {z : Zs}
theorem S_79 {p m : Int} (h0 : 0 ≤ I 55 13 ∧ I 55 13 ≤ 300) : Call PG (d + 1) 79 [(2, 55), (0, p), (0, m)] (I, RF sp rt tt z.1, z) = some (some (0, itr (fun (i : Nat) (a : Int) => if I 66 i = p ∧ m < I 67 i then w32 (a + 1) else a) (I 55 13).toNat 0), (I, RF sp rt tt z.1, z)) := by
  refine (K_79 ..).trans ?_
  refine (T_79_0 ..).trans ?_
  refine loop_p (fun (i : Nat) (a : Int) => if I 66 i = p ∧ m < I 67 i then w32 (a + 1) else a) (fun (i : Nat) (a : Int) => Run PG (Call PG d) 79 5 [(2, 55), (0, p), (0, m), (0, a), (0, (i : Int))] [] (I, RF sp rt tt z.1, z) (0, 0) = some (some (0, itr (fun (i : Nat) (a : Int) => if I 66 i = p ∧ m < I 67 i then w32 (a + 1) else a) (I 55 13).toNat 0), (I, RF sp rt tt z.1, z))) ((I 55 13).toNat) (0) ?_ ?_
  · intro i a hi _ hr
    have hr : Run PG (Call PG d) 79 5 [(2, 55), (0, p), (0, m), (0, if I 66 i = p ∧ m < I 67 i then w32 (a + 1) else a), (0, (i : Int) + 1)] [] (I, RF sp rt tt z.1, z) (0, 0) = some (some (0, itr (fun (i : Nat) (a : Int) => if I 66 i = p ∧ m < I 67 i then w32 (a + 1) else a) (I 55 13).toNat 0), (I, RF sp rt tt z.1, z)) := hr
    refine (T_79_5 ..).trans ?_
    try simp only [Int.toNat_natCast]
    by_cases c : I 66 i = p ∧ m < I 67 i
    · simp only [if_pos c] at hr
      repeat' (first | simp (disch := omega) only [w32_of, up2_ne] | refine ci_bt (by omega) ?_ | refine ci_bf (by omega) ?_ | refine ite_b01 ?_ | refine ci_b (fun _ => ?_) (fun _ => ?_) | refine ci_t (by omega) ?_ | refine ci_f (by omega) ?_ | refine ite_t (by omega) ?_ | refine ite_f (by omega) ?_ | refine (T_79_0 ..).trans ?_ | refine ci_c (fun _ => ?_) (fun _ => ?_))
      all_goals first | omega | ((try simp (disch := omega) only [w32_of]); exact hr)
    · simp only [if_neg c] at hr
      repeat' (first | simp (disch := omega) only [w32_of, up2_ne] | refine ci_bt (by omega) ?_ | refine ci_bf (by omega) ?_ | refine ite_b01 ?_ | refine ci_b (fun _ => ?_) (fun _ => ?_) | refine ci_t (by omega) ?_ | refine ci_f (by omega) ?_ | refine ite_t (by omega) ?_ | refine ite_f (by omega) ?_ | refine (T_79_0 ..).trans ?_ | refine ci_c (fun _ => ?_) (fun _ => ?_))
      all_goals first | omega | ((try simp (disch := omega) only [w32_of]); exact hr)
  · skip
    refine (T_79_5 ..).trans ?_
    repeat' (first | simp (disch := omega) only [w32_of, up2_ne] | refine ci_bt (by omega) ?_ | refine ci_bf (by omega) ?_ | refine ite_b01 ?_ | refine ci_b (fun _ => ?_) (fun _ => ?_) | refine ci_t (by omega) ?_ | refine ci_f (by omega) ?_ | refine ite_t (by omega) ?_ | refine ite_f (by omega) ?_ | refine (T_79_0 ..).trans ?_ | refine ci_c (fun _ => ?_) (fun _ => ?_))
    all_goals rfl
theorem S_162 {p m n : Int} (h0 : 0 ≤ I 55 13 ∧ I 55 13 ≤ 300) : Call PG (d + 1) 162 [(2, 55), (0, p), (0, m), (0, n)] (I, RF sp rt tt z.1, z) = some (some (0, itr (fun (i : Nat) (a : Int) => if I 66 i = p ∧ m ≤ Int.tmod (w32 (Int.tdiv (I 67 i) 60)) 24 ∧ Int.tmod (w32 (Int.tdiv (I 67 i) 60)) 24 < n then w32 (a + 1) else a) (I 55 13).toNat 0), (I, RF sp rt tt z.1, z)) := by
  refine (K_162 ..).trans ?_
  refine (T_162_0 ..).trans ?_
  refine loop_p (fun (i : Nat) (a : Int) => if I 66 i = p ∧ m ≤ Int.tmod (w32 (Int.tdiv (I 67 i) 60)) 24 ∧ Int.tmod (w32 (Int.tdiv (I 67 i) 60)) 24 < n then w32 (a + 1) else a) (fun (i : Nat) (a : Int) => ∀ d6, dl d6 → Run PG (Call PG d) 162 6 [(2, 55), (0, p), (0, m), (0, n), (0, a), (0, (i : Int)), d6] [] (I, RF sp rt tt z.1, z) (0, 0) = some (some (0, itr (fun (i : Nat) (a : Int) => if I 66 i = p ∧ m ≤ Int.tmod (w32 (Int.tdiv (I 67 i) 60)) 24 ∧ Int.tmod (w32 (Int.tdiv (I 67 i) 60)) 24 < n then w32 (a + 1) else a) (I 55 13).toNat 0), (I, RF sp rt tt z.1, z))) ((I 55 13).toNat) (0) ?_ ?_ _ dl9
  · intro i a hi _ hr d6 hd6
    have hr : ∀ d6, dl d6 → Run PG (Call PG d) 162 6 [(2, 55), (0, p), (0, m), (0, n), (0, if I 66 i = p ∧ m ≤ Int.tmod (w32 (Int.tdiv (I 67 i) 60)) 24 ∧ Int.tmod (w32 (Int.tdiv (I 67 i) 60)) 24 < n then w32 (a + 1) else a), (0, (i : Int) + 1), d6] [] (I, RF sp rt tt z.1, z) (0, 0) = some (some (0, itr (fun (i : Nat) (a : Int) => if I 66 i = p ∧ m ≤ Int.tmod (w32 (Int.tdiv (I 67 i) 60)) 24 ∧ Int.tmod (w32 (Int.tdiv (I 67 i) 60)) 24 < n then w32 (a + 1) else a) (I 55 13).toNat 0), (I, RF sp rt tt z.1, z)) := hr
    refine (T_162_6 _ _ _ _ _ _ _ _ _ _ _ _ (by assumption)).trans ?_
    try simp only [Int.toNat_natCast]
    by_cases c : I 66 i = p ∧ m ≤ Int.tmod (w32 (Int.tdiv (I 67 i) 60)) 24 ∧ Int.tmod (w32 (Int.tdiv (I 67 i) 60)) 24 < n
    · simp only [if_pos c] at hr
      repeat' (first | refine ci_bt (by omega) ?_ | refine ci_bf (by omega) ?_ | refine ite_b01 ?_ | refine ci_b (fun _ => ?_) (fun _ => ?_) | refine ci_t (by omega) ?_ | refine ci_f (by omega) ?_ | refine ite_t (by omega) ?_ | refine ite_f (by omega) ?_ | refine (T_162_0 ..).trans ?_ | refine ci_c (fun _ => ?_) (fun _ => ?_))
      all_goals first | omega | ((try simp (disch := omega) only [w32_of]); exact hr _ (dl0 _))
    · simp only [if_neg c] at hr
      repeat' (first | refine ci_bt (by omega) ?_ | refine ci_bf (by omega) ?_ | refine ite_b01 ?_ | refine ci_b (fun _ => ?_) (fun _ => ?_) | refine ci_t (by omega) ?_ | refine ci_f (by omega) ?_ | refine ite_t (by omega) ?_ | refine ite_f (by omega) ?_ | refine (T_162_0 ..).trans ?_ | refine ci_c (fun _ => ?_) (fun _ => ?_))
      all_goals first | omega | ((try simp (disch := omega) only [w32_of]); exact hr _ (dl0 _))
  · intro d6 hd6 
    refine (T_162_6 _ _ _ _ _ _ _ _ _ _ _ _ (by assumption)).trans ?_
    repeat' (first | refine ci_bt (by omega) ?_ | refine ci_bf (by omega) ?_ | refine ite_b01 ?_ | refine ci_b (fun _ => ?_) (fun _ => ?_) | refine ci_t (by omega) ?_ | refine ci_f (by omega) ?_ | refine ite_t (by omega) ?_ | refine ite_f (by omega) ?_ | refine (T_162_0 ..).trans ?_ | refine ci_c (fun _ => ?_) (fun _ => ?_))
    all_goals rfl
theorem S_253 {p : Int} (h0 : 0 ≤ I 82 4 ∧ I 82 4 ≤ 40) : Call PG (d + 1) 253 [(2, 82), (0, p)] (I, RF sp rt tt z.1, z) = some (some (0, itr (fun (i : Nat) (a : Int) => if I 91 i = p ∧ ¬ I 93 i = -1 then w32 (a + 1) else w32 (a + 0)) (I 82 4).toNat 0), (I, RF sp rt tt z.1, z)) := by
  refine (K_253 ..).trans ?_
  refine (T_253_0 ..).trans ?_
  refine loop_p (fun (i : Nat) (a : Int) => if I 91 i = p ∧ ¬ I 93 i = -1 then w32 (a + 1) else w32 (a + 0)) (fun (i : Nat) (a : Int) => Run PG (Call PG d) 253 4 [(2, 82), (0, p), (0, a), (0, (i : Int))] [] (I, RF sp rt tt z.1, z) (0, 0) = some (some (0, itr (fun (i : Nat) (a : Int) => if I 91 i = p ∧ ¬ I 93 i = -1 then w32 (a + 1) else w32 (a + 0)) (I 82 4).toNat 0), (I, RF sp rt tt z.1, z))) ((I 82 4).toNat) (0) ?_ ?_
  · intro i a hi _ hr
    have hr : Run PG (Call PG d) 253 4 [(2, 82), (0, p), (0, if I 91 i = p ∧ ¬ I 93 i = -1 then w32 (a + 1) else w32 (a + 0)), (0, (i : Int) + 1)] [] (I, RF sp rt tt z.1, z) (0, 0) = some (some (0, itr (fun (i : Nat) (a : Int) => if I 91 i = p ∧ ¬ I 93 i = -1 then w32 (a + 1) else w32 (a + 0)) (I 82 4).toNat 0), (I, RF sp rt tt z.1, z)) := hr
    refine (T_253_4 ..).trans ?_
    try simp only [Int.toNat_natCast]
    by_cases c : I 91 i = p ∧ ¬ I 93 i = -1
    · simp only [if_pos c] at hr
      repeat' (first | refine ci_bt (by omega) ?_ | refine ci_bf (by omega) ?_ | refine ite_b01 ?_ | refine ci_b (fun _ => ?_) (fun _ => ?_) | refine ci_t (by omega) ?_ | refine ci_f (by omega) ?_ | refine ite_t (by omega) ?_ | refine ite_f (by omega) ?_ | refine (T_253_0 ..).trans ?_ | refine ci_c (fun _ => ?_) (fun _ => ?_))
      all_goals first | omega | ((try simp (disch := omega) only [w32_of]); exact hr)
    · simp only [if_neg c] at hr
      repeat' (first | refine ci_bt (by omega) ?_ | refine ci_bf (by omega) ?_ | refine ite_b01 ?_ | refine ci_b (fun _ => ?_) (fun _ => ?_) | refine ci_t (by omega) ?_ | refine ci_f (by omega) ?_ | refine ite_t (by omega) ?_ | refine ite_f (by omega) ?_ | refine (T_253_0 ..).trans ?_ | refine ci_c (fun _ => ?_) (fun _ => ?_))
      all_goals first | omega | ((try simp (disch := omega) only [w32_of]); exact hr)
  · skip
    refine (T_253_4 ..).trans ?_
    repeat' (first | refine ci_bt (by omega) ?_ | refine ci_bf (by omega) ?_ | refine ite_b01 ?_ | refine ci_b (fun _ => ?_) (fun _ => ?_) | refine ci_t (by omega) ?_ | refine ci_f (by omega) ?_ | refine ite_t (by omega) ?_ | refine ite_f (by omega) ?_ | refine (T_253_0 ..).trans ?_ | refine ci_c (fun _ => ?_) (fun _ => ?_))
    all_goals rfl
end L1

