/-! calls that count: differs, shots -/
theorem bz_iff {p q : Prop} [Decidable p] [Decidable q] (h : p ↔ q) : bz p = bz q := by
  by_cases e : p
  · rw [bz_t e, bz_t (h.mp e)]
  · rw [bz_f e, bz_f (fun w => e (h.mpr w))]
theorem itr_cnt {c : Nat → Prop} [DecidablePred c] : ∀ {n : Nat}, n ≤ 1000 → itr (fun (i : Nat) (a : Int) => if c i then w32 (a + 1) else w32 (a + 0)) n 0 = sm (fun i => bz (c i)) n
  | 0, _ => rfl
  | n + 1, h => by
    have ih := itr_cnt (c := c) (n := n) (by omega)
    have b := sm_nn (f := fun i => bz (c i)) (n := n) (fun i _ => bz_b _)
    show (if c n then w32 (itr _ n 0 + 1) else w32 (itr _ n 0 + 0)) = sm (fun i => bz (c i)) n + bz (c n)
    rw [ih]
    by_cases e : c n
    · rw [if_pos e, w32_of (by omega) (by omega), bz_t e]
    · rw [if_neg e, w32_of (by omega) (by omega), bz_f e]
theorem itr_cnt2 {c : Nat → Prop} [DecidablePred c] : ∀ {n : Nat}, n ≤ 1000 → itr (fun (i : Nat) (a : Int) => if c i then w32 (a + 1) else a) n 0 = sm (fun i => bz (c i)) n
  | 0, _ => rfl
  | n + 1, h => by
    have ih := itr_cnt2 (c := c) (n := n) (by omega)
    have b := sm_nn (f := fun i => bz (c i)) (n := n) (fun i _ => bz_b _)
    show (if c n then w32 (itr _ n 0 + 1) else itr _ n 0) = sm (fun i => bz (c i)) n + bz (c n)
    rw [ih]
    by_cases e : c n
    · rw [if_pos e, w32_of (by omega) (by omega), bz_t e]
    · rw [if_neg e, bz_f e]; omega
section O7
variable {d : Nat} {I : Nat → Nat → Int} {sp rt : Nat} {tt : Nat → Nat} {z : Zs}
theorem S_253s {p : Int} (h0 : 0 ≤ I 82 4 ∧ I 82 4 ≤ 40) : Call PG (d + 1) 253 [(2, 82), (0, p)] (I, RF sp rt tt z.1, z) = some (some (0, sm (fun (i : Nat) => bz (I 91 i = p ∧ ¬ I 93 i = -1)) (I 82 4).toNat), (I, RF sp rt tt z.1, z)) := (S_253 h0).trans (eqv (itr_cnt (by omega)))
theorem S_253e {p s : Int} (h0 : 0 ≤ I 82 4 ∧ I 82 4 ≤ 40) (e : sm (fun (i : Nat) => bz (I 91 i = p ∧ ¬ I 93 i = -1)) (I 82 4).toNat = s) : Call PG (d + 1) 253 [(2, 82), (0, p)] (I, RF sp rt tt z.1, z) = some (some (0, s), (I, RF sp rt tt z.1, z)) := (S_253s h0).trans (eqv e)
theorem S_154 {p : Int} (h0 : 0 ≤ I 2 6 ∧ I 2 6 ≤ 12) (h1 : 0 ≤ p ∧ p < I 2 6 → 0 ≤ I 64 p.toNat ∧ I 64 p.toNat ≤ 300) (h2 : 0 ≤ p ∧ p < I 2 6 → 0 ≤ I 7 p.toNat ∧ I 7 p.toNat ≤ 2000) : Call PG (d + 2) 154 [(2, 0), (0, p)] (I, RF sp rt tt z.1, z) = if 0 ≤ p ∧ p < I 2 6 then some (some (0, I 64 p.toNat - I 7 p.toNat), (I, RF sp rt tt z.1, z)) else some (some (0, -100000), (I, RF sp rt tt z.1, z)) := by
  refine (K_154 ..).trans ?_
  repeat' (first | simp (disch := omega) only [w32_of, up2_ne] | refine ci_bt (by omega) ?_ | refine ci_bf (by omega) ?_ | refine ite_b01 ?_ | refine ci_b (fun _ => ?_) (fun _ => ?_) | refine ci_t (by omega) ?_ | refine ci_f (by omega) ?_ | refine ite_t (by omega) ?_ | refine ite_f (by omega) ?_ | refine bd_t (S_18) ?_ | refine (T_154_0 ..).trans ?_ | refine (T_154_8 ..).trans ?_ | refine ci_c (fun _ => ?_) (fun _ => ?_))
  all_goals first | exact spec_f (by omega) rfl | (refine spec_t (by omega) ?_; first | rfl | (simp (disch := omega) only [w32_of, Int.add_sub_cancel, up2_ne]; done)) | (refine spec_f (by omega) ?_; first | exact spec_f (by omega) rfl | (refine spec_t (by omega) ?_; first | rfl | (simp (disch := omega) only [w32_of, Int.add_sub_cancel, up2_ne]; done)))
theorem S_312 {p s : Int} (h0 : 0 ≤ I 82 3 ∧ I 82 3 ≤ 12) (h1 : 0 ≤ I 82 4 ∧ I 82 4 ≤ 40) (h2 : 0 ≤ p ∧ p < I 82 3 → 0 ≤ I 88 p.toNat ∧ I 88 p.toNat ≤ 2000) (hs : 0 ≤ s ∧ s ≤ 40) (e : sm (fun (i : Nat) => bz (I 91 i = p ∧ ¬ I 93 i = -1)) (I 82 4).toNat = s) : Call PG (d + 3) 312 [(2, 82), (0, p)] (I, RF sp rt tt z.1, z) = if 0 ≤ p ∧ p < I 82 3 then some (some (0, s - I 88 p.toNat), (I, RF sp rt tt z.1, z)) else some (some (0, -100000), (I, RF sp rt tt z.1, z)) := by
  refine (K_312 ..).trans ?_
  repeat' (first | simp (disch := omega) only [w32_of, up2_ne] | refine ci_bt (by omega) ?_ | refine ci_bf (by omega) ?_ | refine ite_b01 ?_ | refine ci_b (fun _ => ?_) (fun _ => ?_) | refine ci_t (by omega) ?_ | refine ci_f (by omega) ?_ | refine ite_t (by omega) ?_ | refine ite_f (by omega) ?_ | refine bd_t (S_212 (by omega)) ?_ | refine bd_t (S_253e (by omega) (by assumption)) ?_ | refine (T_312_0 ..).trans ?_ | refine (T_312_5 ..).trans ?_ | refine (T_312_13 ..).trans ?_ | refine ci_c (fun _ => ?_) (fun _ => ?_))
  all_goals first | exact spec_f (by omega) rfl | (refine spec_t (by omega) ?_; first | rfl | (simp (disch := omega) only [w32_of, Int.add_sub_cancel, up2_ne]; done)) | (refine spec_f (by omega) ?_; first | exact spec_f (by omega) rfl | (refine spec_t (by omega) ?_; first | rfl | (simp (disch := omega) only [w32_of, Int.add_sub_cancel, up2_ne]; done)))
theorem S_161y {p m n : Int} (h0 : 0 ≤ I 2 6 ∧ I 2 6 ≤ 12) (h1 : 0 ≤ I 55 13 ∧ I 55 13 ≤ 300) (c : (0 ≤ p ∧ p < I 2 6) ∧ (0 ≤ m ∧ m ≤ 24) ∧ m ≤ n ∧ n ≤ 24) : Call PG (d + 2) 161 [(2, 0), (0, p), (0, m), (0, n)] (I, RF sp rt tt z.1, z) = some (some (0, sm (fun (i : Nat) => bz (I 66 i = p ∧ m ≤ Int.tmod (w32 (Int.tdiv (I 67 i) 60)) 24 ∧ Int.tmod (w32 (Int.tdiv (I 67 i) 60)) 24 < n)) (I 55 13).toNat), (I, RF sp rt tt z.1, z)) := by
  refine Eq.trans ?_ (eqv (itr_cnt2 (by omega)))
  refine (K_161 ..).trans ?_
  repeat' (first | refine ci_bt (by omega) ?_ | refine ci_bf (by omega) ?_ | refine ite_b01 ?_ | refine ci_b (fun _ => ?_) (fun _ => ?_) | refine ci_t (by omega) ?_ | refine ci_f (by omega) ?_ | refine ite_t (by omega) ?_ | refine ite_f (by omega) ?_ | refine bd_t (S_13) ?_ | refine bd_t (S_18) ?_ | refine bd_t (S_162 (by omega)) ?_ | refine (T_161_0 ..).trans ?_ | refine (T_161_8 ..).trans ?_ | refine (T_161_18 ..).trans ?_ | refine (T_161_28 ..).trans ?_ | refine (T_161_43 ..).trans ?_ | refine ci_c (fun _ => ?_) (fun _ => ?_))
  all_goals first | rfl | (exfalso; omega)
theorem S_161n {p m n : Int} (h0 : 0 ≤ I 2 6 ∧ I 2 6 ≤ 12) (h1 : 0 ≤ I 55 13 ∧ I 55 13 ≤ 300) (c : ¬ ((0 ≤ p ∧ p < I 2 6) ∧ (0 ≤ m ∧ m ≤ 24) ∧ m ≤ n ∧ n ≤ 24)) : Call PG (d + 2) 161 [(2, 0), (0, p), (0, m), (0, n)] (I, RF sp rt tt z.1, z) = some (some (0, -1), (I, RF sp rt tt z.1, z)) := by
  refine (K_161 ..).trans ?_
  repeat' (first | refine ci_bt (by omega) ?_ | refine ci_bf (by omega) ?_ | refine ite_b01 ?_ | refine ci_b (fun _ => ?_) (fun _ => ?_) | refine ci_t (by omega) ?_ | refine ci_f (by omega) ?_ | refine ite_t (by omega) ?_ | refine ite_f (by omega) ?_ | refine bd_t (S_13) ?_ | refine bd_t (S_18) ?_ | refine bd_t (S_162 (by omega)) ?_ | refine (T_161_0 ..).trans ?_ | refine (T_161_8 ..).trans ?_ | refine (T_161_18 ..).trans ?_ | refine (T_161_28 ..).trans ?_ | refine (T_161_43 ..).trans ?_ | refine ci_c (fun _ => ?_) (fun _ => ?_))
  all_goals first | rfl | (exfalso; omega)
theorem S_317y {p m n q : Int} (hq : w32 (n - 1) = q) (h0 : 0 ≤ I 82 3 ∧ I 82 3 ≤ 12) (h1 : 0 ≤ I 82 14 ∧ I 82 14 ≤ 300) (h3 : ∀ k : Nat, k < (I 82 14).toNat → 0 ≤ I 150 k ∧ I 150 k < 40) (c : (0 ≤ p ∧ p < I 82 3) ∧ (0 ≤ m ∧ m ≤ 24) ∧ m ≤ n ∧ n ≤ 24) : Call PG (d + 3) 317 [(2, 82), (0, p), (0, m), (0, n)] (I, RF sp rt tt z.1, z) = some (some (0, sm (fun (i : Nat) => bz (I 91 (I 150 i).toNat = p ∧ m ≤ Int.tmod (w32 (Int.tdiv (I 151 i) 60)) 24 ∧ Int.tmod (w32 (Int.tdiv (I 151 i) 60)) 24 ≤ q)) (I 82 14).toNat), (I, RF sp rt tt z.1, z)) := by
  refine Eq.trans ?_ (eqv (itr_cnt (by omega)))
  refine (K_317 ..).trans ?_
  repeat' (first | refine ci_bt (by omega) ?_ | refine ci_bf (by omega) ?_ | refine ite_b01 ?_ | refine ci_b (fun _ => ?_) (fun _ => ?_) | refine ci_t (by omega) ?_ | refine ci_f (by omega) ?_ | refine ite_t (by omega) ?_ | refine ite_f (by omega) ?_ | refine bd_t (S_209) ?_ | refine bd_t (S_212 (by omega)) ?_ | refine (T_317_0 ..).trans ?_ | refine (T_317_5 ..).trans ?_ | refine (T_317_17 ..).trans ?_ | refine (T_317_30 ..).trans ?_ | refine (T_317_91 ..).trans ?_ | refine ci_c (fun _ => ?_) (fun _ => ?_))
  refine loop_p (fun (i : Nat) (a : Int) => if I 91 (I 150 i).toNat = p ∧ m ≤ Int.tmod (w32 (Int.tdiv (I 151 i) 60)) 24 ∧ Int.tmod (w32 (Int.tdiv (I 151 i) 60)) 24 ≤ q then w32 (a + 1) else w32 (a + 0)) (fun (i : Nat) (a : Int) => Run PG (Call PG (d + 2)) 317 41 [(2, 82), (0, p), (0, m), (0, n), (0, a), (0, (i : Int))] [] (I, RF sp rt tt z.1, z) (0, 0) = some (some (0, itr (fun (i : Nat) (a : Int) => if I 91 (I 150 i).toNat = p ∧ m ≤ Int.tmod (w32 (Int.tdiv (I 151 i) 60)) 24 ∧ Int.tmod (w32 (Int.tdiv (I 151 i) 60)) 24 ≤ q then w32 (a + 1) else w32 (a + 0)) (I 82 14).toNat 0), (I, RF sp rt tt z.1, z))) ((I 82 14).toNat) (0) ?_ ?_
  · intro i a hi _ hr
    have hr : Run PG (Call PG (d + 2)) 317 41 [(2, 82), (0, p), (0, m), (0, n), (0, if I 91 (I 150 i).toNat = p ∧ m ≤ Int.tmod (w32 (Int.tdiv (I 151 i) 60)) 24 ∧ Int.tmod (w32 (Int.tdiv (I 151 i) 60)) 24 ≤ q then w32 (a + 1) else w32 (a + 0)), (0, (i : Int) + 1)] [] (I, RF sp rt tt z.1, z) (0, 0) = some (some (0, itr (fun (i : Nat) (a : Int) => if I 91 (I 150 i).toNat = p ∧ m ≤ Int.tmod (w32 (Int.tdiv (I 151 i) 60)) 24 ∧ Int.tmod (w32 (Int.tdiv (I 151 i) 60)) 24 ≤ q then w32 (a + 1) else w32 (a + 0)) (I 82 14).toNat 0), (I, RF sp rt tt z.1, z)) := hr
    have b := h3 i (by omega)
    refine (T_317_41 ..).trans ?_
    try simp only [Int.toNat_natCast]
    by_cases c : I 91 (I 150 i).toNat = p ∧ m ≤ Int.tmod (w32 (Int.tdiv (I 151 i) 60)) 24 ∧ Int.tmod (w32 (Int.tdiv (I 151 i) 60)) 24 ≤ q
    · simp only [if_pos c] at hr
      repeat' (first | rw [hq] | refine ci_bt (by omega) ?_ | refine ci_bf (by omega) ?_ | refine ite_b01 ?_ | refine ci_b (fun _ => ?_) (fun _ => ?_) | refine ci_t (by omega) ?_ | refine ci_f (by omega) ?_ | refine ite_t (by omega) ?_ | refine ite_f (by omega) ?_ | refine bd_t (S_209) ?_ | refine bd_t (S_212 (by omega)) ?_ | refine (T_317_0 ..).trans ?_ | refine (T_317_5 ..).trans ?_ | refine (T_317_17 ..).trans ?_ | refine (T_317_30 ..).trans ?_ | refine (T_317_91 ..).trans ?_ | refine ci_c (fun _ => ?_) (fun _ => ?_))
      all_goals first | omega | ((try simp (disch := omega) only [w32_of]); exact hr)
    · simp only [if_neg c] at hr
      repeat' (first | rw [hq] | refine ci_bt (by omega) ?_ | refine ci_bf (by omega) ?_ | refine ite_b01 ?_ | refine ci_b (fun _ => ?_) (fun _ => ?_) | refine ci_t (by omega) ?_ | refine ci_f (by omega) ?_ | refine ite_t (by omega) ?_ | refine ite_f (by omega) ?_ | refine bd_t (S_209) ?_ | refine bd_t (S_212 (by omega)) ?_ | refine (T_317_0 ..).trans ?_ | refine (T_317_5 ..).trans ?_ | refine (T_317_17 ..).trans ?_ | refine (T_317_30 ..).trans ?_ | refine (T_317_91 ..).trans ?_ | refine ci_c (fun _ => ?_) (fun _ => ?_))
      all_goals first | omega | ((try simp (disch := omega) only [w32_of]); exact hr)
  · skip
    refine (T_317_41 ..).trans ?_
    repeat' (first | rw [hq] | refine ci_bt (by omega) ?_ | refine ci_bf (by omega) ?_ | refine ite_b01 ?_ | refine ci_b (fun _ => ?_) (fun _ => ?_) | refine ci_t (by omega) ?_ | refine ci_f (by omega) ?_ | refine ite_t (by omega) ?_ | refine ite_f (by omega) ?_ | refine bd_t (S_209) ?_ | refine bd_t (S_212 (by omega)) ?_ | refine (T_317_0 ..).trans ?_ | refine (T_317_5 ..).trans ?_ | refine (T_317_17 ..).trans ?_ | refine (T_317_30 ..).trans ?_ | refine (T_317_91 ..).trans ?_ | refine ci_c (fun _ => ?_) (fun _ => ?_))
    all_goals rfl
theorem S_317n {p m n : Int} (h0 : 0 ≤ I 82 3 ∧ I 82 3 ≤ 12) (c : ¬ ((0 ≤ p ∧ p < I 82 3) ∧ (0 ≤ m ∧ m ≤ 24) ∧ m ≤ n ∧ n ≤ 24)) : Call PG (d + 3) 317 [(2, 82), (0, p), (0, m), (0, n)] (I, RF sp rt tt z.1, z) = some (some (0, -1), (I, RF sp rt tt z.1, z)) := by
  refine (K_317 ..).trans ?_
  repeat' (first | refine ci_bt (by omega) ?_ | refine ci_bf (by omega) ?_ | refine ite_b01 ?_ | refine ci_b (fun _ => ?_) (fun _ => ?_) | refine ci_t (by omega) ?_ | refine ci_f (by omega) ?_ | refine ite_t (by omega) ?_ | refine ite_f (by omega) ?_ | refine bd_t (S_209) ?_ | refine bd_t (S_212 (by omega)) ?_ | refine (T_317_0 ..).trans ?_ | refine (T_317_5 ..).trans ?_ | refine (T_317_17 ..).trans ?_ | refine (T_317_30 ..).trans ?_ | refine (T_317_91 ..).trans ?_ | refine ci_c (fun _ => ?_) (fun _ => ?_))
  all_goals first | rfl | (exfalso; omega)
end O7
section O7b
variable {I : Nat → Nat → Int} {sp rt : Nat} {tt : Nat → Nat} {z : Zs}
theorem below_eq (hh : InvS I) {p : Int} (c : 0 ≤ p ∧ p < I 2 6) : sm (fun (i : Nat) => bz (I 91 i = p ∧ ¬ I 93 i = -1)) (I 82 4).toNat = I 64 p.toNat := by
  have hC := hh.2.2.1
  have p1 := hh.2.1.1
  rw [hC.1.1.1, hC.2.2.2.2.2.1 p.toNat (by omega)]
  refine sm_congr (fun i _ => bz_iff ?_)
  rw [hC.2.1.1 i, hC.2.1.2.2.1 i, Int.toNat_of_nonneg c.1]
theorem o_differs (p : Int) (hh : InvS I) : OpR 154 312 [(0, p)] I sp rt tt z := by
  have p1 := hh.2.1.1
  have c1 := hh.2.2.1.1
  have e7 := hh.2.1.2.2.1.2.2.2.2.1 p.toNat
  have b7 := hh.2.1.2.2.2.2.2.2.2.1 p.toNat
  by_cases c : 0 ≤ p ∧ p < I 2 6
  · have b := be_in hh p.toNat (by omega)
    have e := below_eq hh c
    refine ⟨I 64 p.toNat - I 7 p.toNat, I, I, (S_154 (by omega) (by omega) (by omega)).trans (if_pos c), (S_312 (s := I 64 p.toNat) (by omega) (by omega) (by omega) (by omega) e).trans ((if_pos (by omega)).trans (eqv (by omega))), hh, rfl⟩
  · have b := sm_nn (f := fun (i : Nat) => bz (I 91 i = p ∧ ¬ I 93 i = -1)) (n := (I 82 4).toNat) (fun i _ => bz_b _)
    refine ⟨-100000, I, I, (S_154 (by omega) (fun w => absurd w c) (fun w => absurd w c)).trans (if_neg c), (S_312 (by omega) (by omega) (by omega) (by omega) rfl).trans (if_neg (by omega)), hh, rfl⟩
theorem o_shots (p m n : Int) (hh : InvS I) : OpR 161 317 [(0, p), (0, m), (0, n)] I sp rt tt z := by
  have p1 := hh.2.1.1
  have hC := hh.2.2.1
  have c1 := hC.1
  by_cases c : (0 ≤ p ∧ p < I 2 6) ∧ (0 ≤ m ∧ m ≤ 24) ∧ m ≤ n ∧ n ≤ 24
  · refine ⟨_, I, I, S_161y (by omega) (by omega) c, (S_317y (q := n - 1) (w32_of (by omega) (by omega)) (by omega) (by omega) (fun k hk => ?_) (by omega)).trans (eqv ?_), hh, rfl⟩
    · have q := hC.2.2.2.2.1 k (by omega)
      omega
    · rw [c1.2.2.2.1]
      refine sm_congr (fun i hi => bz_iff ?_)
      have k := hC.2.2.2.2.1 i hi
      rw [hC.2.1.2.2.2.2.2.2.2.2 i, hC.2.1.1 (I 150 i).toNat, ← k.2.1]
      constructor
      · intro w; exact ⟨w.1, w.2.1, by omega⟩
      · intro w; exact ⟨w.1, w.2.1, by omega⟩
  · exact ⟨-1, I, I, S_161n (by omega) (by omega) c, S_317n (by omega) (by omega), hh, rfl⟩
end O7b

