/-! more loops: lamps, shots, who had a lot, who knew -/
section L2
variable {d : Nat} {I : Nat → Nat → Int} {sp rt : Nat} {tt : Nat → Nat} {z : Zs}
theorem S_274 {p : Int} (h0 : 0 ≤ I 82 4 ∧ I 82 4 ≤ 40) (h3 : ∀ h : Nat, h < (I 82 4).toNat → -1 ≤ I 93 h ∧ I 93 h < 300) : Call PG (d + 1) 274 [(2, 82), (0, p)] (I, RF sp rt tt z.1, z) = some (some (0, itr (fun (i : Nat) (a : Int) => if I 91 i = p ∧ ¬ I 93 i = -1 ∧ ¬ I 148 (I 93 i).toNat = -1 then w32 (a + 1) else w32 (a + 0)) (I 82 4).toNat 0), (I, RF sp rt tt z.1, z)) := by
  refine (K_274 ..).trans ?_
  refine (T_274_0 ..).trans ?_
  refine loop_p (fun (i : Nat) (a : Int) => if I 91 i = p ∧ ¬ I 93 i = -1 ∧ ¬ I 148 (I 93 i).toNat = -1 then w32 (a + 1) else w32 (a + 0)) (fun (i : Nat) (a : Int) => Run PG (Call PG d) 274 4 [(2, 82), (0, p), (0, a), (0, (i : Int))] [] (I, RF sp rt tt z.1, z) (0, 0) = some (some (0, itr (fun (i : Nat) (a : Int) => if I 91 i = p ∧ ¬ I 93 i = -1 ∧ ¬ I 148 (I 93 i).toNat = -1 then w32 (a + 1) else w32 (a + 0)) (I 82 4).toNat 0), (I, RF sp rt tt z.1, z))) ((I 82 4).toNat) (0) ?_ ?_
  · intro i a hi _ hr
    have hr : Run PG (Call PG d) 274 4 [(2, 82), (0, p), (0, if I 91 i = p ∧ ¬ I 93 i = -1 ∧ ¬ I 148 (I 93 i).toNat = -1 then w32 (a + 1) else w32 (a + 0)), (0, (i : Int) + 1)] [] (I, RF sp rt tt z.1, z) (0, 0) = some (some (0, itr (fun (i : Nat) (a : Int) => if I 91 i = p ∧ ¬ I 93 i = -1 ∧ ¬ I 148 (I 93 i).toNat = -1 then w32 (a + 1) else w32 (a + 0)) (I 82 4).toNat 0), (I, RF sp rt tt z.1, z)) := hr
    have b := h3 i (by omega)
    refine (T_274_4 ..).trans ?_
    try simp only [Int.toNat_natCast]
    by_cases c : I 91 i = p ∧ ¬ I 93 i = -1 ∧ ¬ I 148 (I 93 i).toNat = -1
    · simp only [if_pos c] at hr
      repeat' (first | refine ci_bt (by omega) ?_ | refine ci_bf (by omega) ?_ | refine ite_b01 ?_ | refine ci_b (fun _ => ?_) (fun _ => ?_) | refine ci_t (by omega) ?_ | refine ci_f (by omega) ?_ | refine ite_t (by omega) ?_ | refine ite_f (by omega) ?_ | refine (T_274_0 ..).trans ?_ | refine ci_c (fun _ => ?_) (fun _ => ?_))
      all_goals first | omega | ((try simp (disch := omega) only [w32_of]); exact hr)
    · simp only [if_neg c] at hr
      repeat' (first | refine ci_bt (by omega) ?_ | refine ci_bf (by omega) ?_ | refine ite_b01 ?_ | refine ci_b (fun _ => ?_) (fun _ => ?_) | refine ci_t (by omega) ?_ | refine ci_f (by omega) ?_ | refine ite_t (by omega) ?_ | refine ite_f (by omega) ?_ | refine (T_274_0 ..).trans ?_ | refine ci_c (fun _ => ?_) (fun _ => ?_))
      all_goals first | omega | ((try simp (disch := omega) only [w32_of]); exact hr)
  · skip
    refine (T_274_4 ..).trans ?_
    repeat' (first | refine ci_bt (by omega) ?_ | refine ci_bf (by omega) ?_ | refine ite_b01 ?_ | refine ci_b (fun _ => ?_) (fun _ => ?_) | refine ci_t (by omega) ?_ | refine ci_f (by omega) ?_ | refine ite_t (by omega) ?_ | refine ite_f (by omega) ?_ | refine (T_274_0 ..).trans ?_ | refine ci_c (fun _ => ?_) (fun _ => ?_))
    all_goals rfl
theorem S_275 {p : Int} (h0 : 0 ≤ I 82 14 ∧ I 82 14 ≤ 300) (h3 : ∀ k : Nat, k < (I 82 14).toNat → 0 ≤ I 150 k ∧ I 150 k < 40) : Call PG (d + 1) 275 [(2, 82), (0, p)] (I, RF sp rt tt z.1, z) = some (some (0, itr (fun (i : Nat) (a : Int) => if I 91 (I 150 i).toNat = p ∧ w32 (I 82 2 - 1440) < I 151 i then w32 (a + 1) else w32 (a + 0)) (I 82 14).toNat 0), (I, RF sp rt tt z.1, z)) := by
  refine (K_275 ..).trans ?_
  refine (T_275_0 ..).trans ?_
  refine loop_p (fun (i : Nat) (a : Int) => if I 91 (I 150 i).toNat = p ∧ w32 (I 82 2 - 1440) < I 151 i then w32 (a + 1) else w32 (a + 0)) (fun (i : Nat) (a : Int) => Run PG (Call PG d) 275 4 [(2, 82), (0, p), (0, a), (0, (i : Int))] [] (I, RF sp rt tt z.1, z) (0, 0) = some (some (0, itr (fun (i : Nat) (a : Int) => if I 91 (I 150 i).toNat = p ∧ w32 (I 82 2 - 1440) < I 151 i then w32 (a + 1) else w32 (a + 0)) (I 82 14).toNat 0), (I, RF sp rt tt z.1, z))) ((I 82 14).toNat) (0) ?_ ?_
  · intro i a hi _ hr
    have hr : Run PG (Call PG d) 275 4 [(2, 82), (0, p), (0, if I 91 (I 150 i).toNat = p ∧ w32 (I 82 2 - 1440) < I 151 i then w32 (a + 1) else w32 (a + 0)), (0, (i : Int) + 1)] [] (I, RF sp rt tt z.1, z) (0, 0) = some (some (0, itr (fun (i : Nat) (a : Int) => if I 91 (I 150 i).toNat = p ∧ w32 (I 82 2 - 1440) < I 151 i then w32 (a + 1) else w32 (a + 0)) (I 82 14).toNat 0), (I, RF sp rt tt z.1, z)) := hr
    have b := h3 i (by omega)
    refine (T_275_4 ..).trans ?_
    try simp only [Int.toNat_natCast]
    by_cases c : I 91 (I 150 i).toNat = p ∧ w32 (I 82 2 - 1440) < I 151 i
    · simp only [if_pos c] at hr
      repeat' (first | refine ci_bt (by omega) ?_ | refine ci_bf (by omega) ?_ | refine ite_b01 ?_ | refine ci_b (fun _ => ?_) (fun _ => ?_) | refine ci_t (by omega) ?_ | refine ci_f (by omega) ?_ | refine ite_t (by omega) ?_ | refine ite_f (by omega) ?_ | refine (T_275_0 ..).trans ?_ | refine ci_c (fun _ => ?_) (fun _ => ?_))
      all_goals first | omega | ((try simp (disch := omega) only [w32_of]); exact hr)
    · simp only [if_neg c] at hr
      repeat' (first | refine ci_bt (by omega) ?_ | refine ci_bf (by omega) ?_ | refine ite_b01 ?_ | refine ci_b (fun _ => ?_) (fun _ => ?_) | refine ci_t (by omega) ?_ | refine ci_f (by omega) ?_ | refine ite_t (by omega) ?_ | refine ite_f (by omega) ?_ | refine (T_275_0 ..).trans ?_ | refine ci_c (fun _ => ?_) (fun _ => ?_))
      all_goals first | omega | ((try simp (disch := omega) only [w32_of]); exact hr)
  · skip
    refine (T_275_4 ..).trans ?_
    repeat' (first | refine ci_bt (by omega) ?_ | refine ci_bf (by omega) ?_ | refine ite_b01 ?_ | refine ci_b (fun _ => ?_) (fun _ => ?_) | refine ci_t (by omega) ?_ | refine ci_f (by omega) ?_ | refine ite_t (by omega) ?_ | refine ite_f (by omega) ?_ | refine (T_275_0 ..).trans ?_ | refine ci_c (fun _ => ?_) (fun _ => ?_))
    all_goals rfl
theorem S_315 {h f : Int} : Call PG (d + 1) 315 [(0, h), (0, f)] (I, RF sp rt tt z.1, z) = some (some (0, if w32 (Int.tdiv h 20) = f then shl32 1 (Int.tmod h 20) else 0), (I, RF sp rt tt z.1, z)) := by
  refine (K_315 ..).trans ?_
  repeat' (first | refine ci_bt (by omega) ?_ | refine ci_bf (by omega) ?_ | refine ite_b01 ?_ | refine ci_b (fun _ => ?_) (fun _ => ?_) | refine ci_t (by omega) ?_ | refine ci_f (by omega) ?_ | refine ite_t (by omega) ?_ | refine ite_f (by omega) ?_ | refine (T_315_0 ..).trans ?_ | refine ci_c (fun _ => ?_) (fun _ => ?_))
  · rw [if_pos (by assumption)]
  · rw [if_neg (by assumption)]
theorem S_158 {l m f : Int} (h0 : 0 ≤ I 55 7 ∧ I 55 7 ≤ 300) (h1 : 0 ≤ l ∧ l ≤ 9) (h3 : ∀ o : Nat, o < (I 55 7).toNat → -1 ≤ I 62 o ∧ I 62 o < 60) : Call PG (d + 2) 158 [(2, 55), (0, l), (0, m), (0, f)] (I, RF sp rt tt z.1, z) = some (some (0, itr (fun (i : Nat) (a : Int) => if (¬ I 62 i = -1 ∧ I 59 (I 62 i).toNat = l) ∧ (I 63 i = -1 ∨ m ≤ I 63 i) ∧ w32 (Int.tdiv (I 61 i) 20) = f then io32 a (shl32 1 (Int.tmod (I 61 i) 20)) else a) (I 55 7).toNat 0), (I, RF sp rt tt z.1, z)) := by
  refine (K_158 ..).trans ?_
  repeat' (first | refine ci_bt (by omega) ?_ | refine ci_bf (by omega) ?_ | refine ite_b01 ?_ | refine ci_b (fun _ => ?_) (fun _ => ?_) | refine ci_t (by omega) ?_ | refine ci_f (by omega) ?_ | refine ite_t (by omega) ?_ | refine ite_f (by omega) ?_ | refine bd_t (S_13) ?_ | refine (T_158_0 ..).trans ?_ | refine (T_158_7 ..).trans ?_ | refine (T_158_88 _ _ _ _ _ _ _ _ _ _ _ _ _ _ (by first | exact dl9 | exact dl0 _ | exact dl2 _ | assumption)).trans ?_ | refine ci_c (fun _ => ?_) (fun _ => ?_))
  refine loop_p (fun (i : Nat) (a : Int) => if (¬ I 62 i = -1 ∧ I 59 (I 62 i).toNat = l) ∧ (I 63 i = -1 ∨ m ≤ I 63 i) ∧ w32 (Int.tdiv (I 61 i) 20) = f then io32 a (shl32 1 (Int.tmod (I 61 i) 20)) else a) (fun (i : Nat) (a : Int) => ∀ d6, dl d6 → ∀ d7, dl d7 → Run PG (Call PG (d + 1)) 158 18 [(2, 55), (0, l), (0, m), (0, f), (0, a), (0, (i : Int)), d6, d7] [] (I, RF sp rt tt z.1, z) (0, 0) = some (some (0, itr (fun (i : Nat) (a : Int) => if (¬ I 62 i = -1 ∧ I 59 (I 62 i).toNat = l) ∧ (I 63 i = -1 ∨ m ≤ I 63 i) ∧ w32 (Int.tdiv (I 61 i) 20) = f then io32 a (shl32 1 (Int.tmod (I 61 i) 20)) else a) (I 55 7).toNat 0), (I, RF sp rt tt z.1, z))) ((I 55 7).toNat) (0) ?_ ?_ _ dl9 _ dl9
  · intro i a hi _ hr d6 hd6 d7 hd7
    have hr : ∀ d6, dl d6 → ∀ d7, dl d7 → Run PG (Call PG (d + 1)) 158 18 [(2, 55), (0, l), (0, m), (0, f), (0, if (¬ I 62 i = -1 ∧ I 59 (I 62 i).toNat = l) ∧ (I 63 i = -1 ∨ m ≤ I 63 i) ∧ w32 (Int.tdiv (I 61 i) 20) = f then io32 a (shl32 1 (Int.tmod (I 61 i) 20)) else a), (0, (i : Int) + 1), d6, d7] [] (I, RF sp rt tt z.1, z) (0, 0) = some (some (0, itr (fun (i : Nat) (a : Int) => if (¬ I 62 i = -1 ∧ I 59 (I 62 i).toNat = l) ∧ (I 63 i = -1 ∨ m ≤ I 63 i) ∧ w32 (Int.tdiv (I 61 i) 20) = f then io32 a (shl32 1 (Int.tmod (I 61 i) 20)) else a) (I 55 7).toNat 0), (I, RF sp rt tt z.1, z)) := hr
    have b := h3 i (by omega)
    refine (T_158_18 _ _ _ _ _ _ _ _ _ _ _ _ _ (by assumption) (by assumption)).trans ?_
    try simp only [Int.toNat_natCast]
    by_cases c : (¬ I 62 i = -1 ∧ I 59 (I 62 i).toNat = l) ∧ (I 63 i = -1 ∨ m ≤ I 63 i) ∧ w32 (Int.tdiv (I 61 i) 20) = f
    · simp only [if_pos c] at hr
      repeat' (first | rw [Int.toNat_natCast] | refine ci_bt (by omega) ?_ | refine ci_bf (by omega) ?_ | refine ite_b01 ?_ | refine ci_b (fun _ => ?_) (fun _ => ?_) | refine ci_t (by omega) ?_ | refine ci_f (by omega) ?_ | refine ite_t (by omega) ?_ | refine ite_f (by omega) ?_ | refine bd_t (S_13) ?_ | refine (T_158_0 ..).trans ?_ | refine (T_158_7 ..).trans ?_ | refine (T_158_88 _ _ _ _ _ _ _ _ _ _ _ _ _ _ (by first | exact dl9 | exact dl0 _ | exact dl2 _ | assumption)).trans ?_ | refine ci_c (fun _ => ?_) (fun _ => ?_))
      all_goals first | omega | ((try simp (disch := omega) only [w32_of]); exact hr _ (dl0 _) _ (dl0 _))
    · simp only [if_neg c] at hr
      repeat' (first | rw [Int.toNat_natCast] | refine ci_bt (by omega) ?_ | refine ci_bf (by omega) ?_ | refine ite_b01 ?_ | refine ci_b (fun _ => ?_) (fun _ => ?_) | refine ci_t (by omega) ?_ | refine ci_f (by omega) ?_ | refine ite_t (by omega) ?_ | refine ite_f (by omega) ?_ | refine bd_t (S_13) ?_ | refine (T_158_0 ..).trans ?_ | refine (T_158_7 ..).trans ?_ | refine (T_158_88 _ _ _ _ _ _ _ _ _ _ _ _ _ _ (by first | exact dl9 | exact dl0 _ | exact dl2 _ | assumption)).trans ?_ | refine ci_c (fun _ => ?_) (fun _ => ?_))
      all_goals first | omega | ((try simp (disch := omega) only [w32_of]); exact hr _ (dl0 _) _ (dl0 _))
  · intro d6 hd6 d7 hd7 
    refine (T_158_18 _ _ _ _ _ _ _ _ _ _ _ _ _ (by assumption) (by assumption)).trans ?_
    repeat' (first | rw [Int.toNat_natCast] | refine ci_bt (by omega) ?_ | refine ci_bf (by omega) ?_ | refine ite_b01 ?_ | refine ci_b (fun _ => ?_) (fun _ => ?_) | refine ci_t (by omega) ?_ | refine ci_f (by omega) ?_ | refine ite_t (by omega) ?_ | refine ite_f (by omega) ?_ | refine bd_t (S_13) ?_ | refine (T_158_0 ..).trans ?_ | refine (T_158_7 ..).trans ?_ | refine (T_158_88 _ _ _ _ _ _ _ _ _ _ _ _ _ _ (by first | exact dl9 | exact dl0 _ | exact dl2 _ | assumption)).trans ?_ | refine ci_c (fun _ => ?_) (fun _ => ?_))
    all_goals rfl
theorem S_158n {l m f : Int} (h1 : ¬ (0 ≤ l ∧ l ≤ 9)) : Call PG (d + 2) 158 [(2, 55), (0, l), (0, m), (0, f)] (I, RF sp rt tt z.1, z) = some (some (0, -1), (I, RF sp rt tt z.1, z)) := by
  refine (K_158 ..).trans ?_
  repeat' (first | refine ci_bt (by omega) ?_ | refine ci_bf (by omega) ?_ | refine ite_b01 ?_ | refine ci_b (fun _ => ?_) (fun _ => ?_) | refine ci_t (by omega) ?_ | refine ci_f (by omega) ?_ | refine ite_t (by omega) ?_ | refine ite_f (by omega) ?_ | refine bd_t (S_13) ?_ | refine (T_158_0 ..).trans ?_ | refine (T_158_7 ..).trans ?_ | refine (T_158_88 _ _ _ _ _ _ _ _ _ _ _ _ _ _ (by first | exact dl9 | exact dl0 _ | exact dl2 _ | assumption)).trans ?_ | refine ci_c (fun _ => ?_) (fun _ => ?_))
  all_goals rfl
end L2

