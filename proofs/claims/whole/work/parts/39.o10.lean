/-! knew, to its end; tell -/
section O10
variable {d : Nat} {I : Nat → Nat → Int} {sp rt : Nat} {tt : Nat → Nat} {z : Zs}
theorem S_172y {w m f : Int} (h0 : 0 ≤ I 68 0 ∧ I 68 0 ≤ 60) (c : (0 ≤ w ∧ w < I 68 0) ∧ (0 ≤ m ∧ m ≤ 5000000) ∧ 0 ≤ f ∧ f ≤ 1) : Call PG (d + 3) 172 [(2, 0), (0, w), (0, m), (0, f)] (I, RF sp rt tt z.1, z) = some (some (0, itr (fun (i : Nat) (a : Int) => if ¬ I 70 (40 * w + (20 * f + i)).toNat = -1 ∧ I 70 (40 * w + (20 * f + i)).toNat ≤ m then io32 a (shl32 1 i) else a) 20 0), (I, RF sp rt tt z.1, z)) := by
  refine (K_172 ..).trans ?_
  repeat' (first | refine ci_bt (by omega) ?_ | refine ci_bf (by omega) ?_ | refine ite_b01 ?_ | refine ci_b (fun _ => ?_) (fun _ => ?_) | refine ci_t (by omega) ?_ | refine ci_f (by omega) ?_ | refine ite_t (by omega) ?_ | refine ite_f (by omega) ?_ | refine bd_t (S_13) ?_ | refine bd_t (S_166) ?_ | refine bd_t (S_173 (by omega) (by omega)) ?_ | refine (T_172_0 ..).trans ?_ | refine (T_172_8 ..).trans ?_ | refine (T_172_17 ..).trans ?_ | refine (T_172_27 ..).trans ?_ | refine (T_172_42 ..).trans ?_ | refine ci_c (fun _ => ?_) (fun _ => ?_))
  all_goals first | rfl | (exfalso; omega)
theorem S_172n {w m f : Int} (h0 : 0 ≤ I 68 0 ∧ I 68 0 ≤ 60) (c : ¬ ((0 ≤ w ∧ w < I 68 0) ∧ (0 ≤ m ∧ m ≤ 5000000) ∧ 0 ≤ f ∧ f ≤ 1)) : Call PG (d + 3) 172 [(2, 0), (0, w), (0, m), (0, f)] (I, RF sp rt tt z.1, z) = some (some (0, -1), (I, RF sp rt tt z.1, z)) := by
  refine (K_172 ..).trans ?_
  repeat' (first | refine ci_bt (by omega) ?_ | refine ci_bf (by omega) ?_ | refine ite_b01 ?_ | refine ci_b (fun _ => ?_) (fun _ => ?_) | refine ci_t (by omega) ?_ | refine ci_f (by omega) ?_ | refine ite_t (by omega) ?_ | refine ite_f (by omega) ?_ | refine bd_t (S_13) ?_ | refine bd_t (S_166) ?_ | refine bd_t (S_173 (by omega) (by omega)) ?_ | refine (T_172_0 ..).trans ?_ | refine (T_172_8 ..).trans ?_ | refine (T_172_17 ..).trans ?_ | refine (T_172_27 ..).trans ?_ | refine (T_172_42 ..).trans ?_ | refine ci_c (fun _ => ?_) (fun _ => ?_))
  all_goals first | rfl | (exfalso; omega)
theorem S_322y {w m f : Int} (h0 : 0 ≤ I 82 15 ∧ I 82 15 ≤ 60) (h1 : 0 ≤ I 82 4 ∧ I 82 4 ≤ 40) (c : (0 ≤ w ∧ w < I 82 15) ∧ (0 ≤ m ∧ m ≤ 5000000) ∧ 0 ≤ f ∧ f ≤ 1) : Call PG (d + 3) 322 [(2, 82), (0, w), (0, m), (0, f)] (I, RF sp rt tt z.1, z) = some (some (0, itr (fun (i : Nat) (a : Int) => if 0 ≤ I 153 (40 * w + i).toNat ∧ I 153 (40 * w + i).toNat ≤ m then io32 a (if w32 (Int.tdiv i 20) = f then shl32 1 (Int.tmod i 20) else 0) else a) (I 82 4).toNat 0), (I, RF sp rt tt z.1, z)) := by
  refine (K_322 ..).trans ?_
  repeat' (first | refine ci_bt (by omega) ?_ | refine ci_bf (by omega) ?_ | refine ite_b01 ?_ | refine ci_b (fun _ => ?_) (fun _ => ?_) | refine ci_t (by omega) ?_ | refine ci_f (by omega) ?_ | refine ite_t (by omega) ?_ | refine ite_f (by omega) ?_ | refine bd_t (S_209) ?_ | refine bd_t (S_315) ?_ | refine bd_t (S_320 (by omega)) ?_ | refine (T_322_0 ..).trans ?_ | refine (T_322_5 ..).trans ?_ | refine (T_322_17 ..).trans ?_ | refine (T_322_27 ..).trans ?_ | refine (T_322_66 ..).trans ?_ | refine (T_322_77 ..).trans ?_ | refine ci_c (fun _ => ?_) (fun _ => ?_))
  refine loop_p (fun (i : Nat) (a : Int) => if 0 ≤ I 153 (40 * w + i).toNat ∧ I 153 (40 * w + i).toNat ≤ m then io32 a (if w32 (Int.tdiv i 20) = f then shl32 1 (Int.tmod i 20) else 0) else a) (fun (i : Nat) (a : Int) => Run PG (Call PG (d + 2)) 322 38 [(2, 82), (0, w), (0, m), (0, f), (0, a), (0, (i : Int))] [] (I, RF sp rt tt z.1, z) (0, 0) = some (some (0, itr (fun (i : Nat) (a : Int) => if 0 ≤ I 153 (40 * w + i).toNat ∧ I 153 (40 * w + i).toNat ≤ m then io32 a (if w32 (Int.tdiv i 20) = f then shl32 1 (Int.tmod i 20) else 0) else a) (I 82 4).toNat 0), (I, RF sp rt tt z.1, z))) ((I 82 4).toNat) (0) ?_ ?_
  · intro i a hi _ hr
    have hr : Run PG (Call PG (d + 2)) 322 38 [(2, 82), (0, w), (0, m), (0, f), (0, if 0 ≤ I 153 (40 * w + i).toNat ∧ I 153 (40 * w + i).toNat ≤ m then io32 a (if w32 (Int.tdiv i 20) = f then shl32 1 (Int.tmod i 20) else 0) else a), (0, (i : Int) + 1)] [] (I, RF sp rt tt z.1, z) (0, 0) = some (some (0, itr (fun (i : Nat) (a : Int) => if 0 ≤ I 153 (40 * w + i).toNat ∧ I 153 (40 * w + i).toNat ≤ m then io32 a (if w32 (Int.tdiv i 20) = f then shl32 1 (Int.tmod i 20) else 0) else a) (I 82 4).toNat 0), (I, RF sp rt tt z.1, z)) := hr
    have j1 : w32 (w32 (40 * w) + (i : Int)) = 40 * w + i := by rw [w32_of (x := 40 * w) (by omega) (by omega), w32_of (by omega) (by omega)]
    refine (T_322_38 ..).trans ?_
    try simp only [Int.toNat_natCast]
    by_cases c : 0 ≤ I 153 (40 * w + i).toNat ∧ I 153 (40 * w + i).toNat ≤ m
    · simp only [if_pos c] at hr
      repeat' (first | rw [j1] | refine ci_bt (by omega) ?_ | refine ci_bf (by omega) ?_ | refine ite_b01 ?_ | refine ci_b (fun _ => ?_) (fun _ => ?_) | refine ci_t (by omega) ?_ | refine ci_f (by omega) ?_ | refine ite_t (by omega) ?_ | refine ite_f (by omega) ?_ | refine bd_t (S_209) ?_ | refine bd_t (S_315) ?_ | refine bd_t (S_320 (by omega)) ?_ | refine (T_322_0 ..).trans ?_ | refine (T_322_5 ..).trans ?_ | refine (T_322_17 ..).trans ?_ | refine (T_322_27 ..).trans ?_ | refine (T_322_66 ..).trans ?_ | refine (T_322_77 ..).trans ?_ | refine ci_c (fun _ => ?_) (fun _ => ?_))
      all_goals first | omega | ((try simp (disch := omega) only [w32_of]); exact hr)
    · simp only [if_neg c] at hr
      repeat' (first | rw [j1] | refine ci_bt (by omega) ?_ | refine ci_bf (by omega) ?_ | refine ite_b01 ?_ | refine ci_b (fun _ => ?_) (fun _ => ?_) | refine ci_t (by omega) ?_ | refine ci_f (by omega) ?_ | refine ite_t (by omega) ?_ | refine ite_f (by omega) ?_ | refine bd_t (S_209) ?_ | refine bd_t (S_315) ?_ | refine bd_t (S_320 (by omega)) ?_ | refine (T_322_0 ..).trans ?_ | refine (T_322_5 ..).trans ?_ | refine (T_322_17 ..).trans ?_ | refine (T_322_27 ..).trans ?_ | refine (T_322_66 ..).trans ?_ | refine (T_322_77 ..).trans ?_ | refine ci_c (fun _ => ?_) (fun _ => ?_))
      all_goals first | omega | ((try simp (disch := omega) only [w32_of]); exact hr)
  · skip
    refine (T_322_38 ..).trans ?_
    repeat' (first | rw [j1] | refine ci_bt (by omega) ?_ | refine ci_bf (by omega) ?_ | refine ite_b01 ?_ | refine ci_b (fun _ => ?_) (fun _ => ?_) | refine ci_t (by omega) ?_ | refine ci_f (by omega) ?_ | refine ite_t (by omega) ?_ | refine ite_f (by omega) ?_ | refine bd_t (S_209) ?_ | refine bd_t (S_315) ?_ | refine bd_t (S_320 (by omega)) ?_ | refine (T_322_0 ..).trans ?_ | refine (T_322_5 ..).trans ?_ | refine (T_322_17 ..).trans ?_ | refine (T_322_27 ..).trans ?_ | refine (T_322_66 ..).trans ?_ | refine (T_322_77 ..).trans ?_ | refine ci_c (fun _ => ?_) (fun _ => ?_))
    all_goals rfl
theorem S_322n {w m f : Int} (h0 : 0 ≤ I 82 15 ∧ I 82 15 ≤ 60) (c : ¬ ((0 ≤ w ∧ w < I 82 15) ∧ (0 ≤ m ∧ m ≤ 5000000) ∧ 0 ≤ f ∧ f ≤ 1)) : Call PG (d + 3) 322 [(2, 82), (0, w), (0, m), (0, f)] (I, RF sp rt tt z.1, z) = some (some (0, -1), (I, RF sp rt tt z.1, z)) := by
  refine (K_322 ..).trans ?_
  repeat' (first | refine ci_bt (by omega) ?_ | refine ci_bf (by omega) ?_ | refine ite_b01 ?_ | refine ci_b (fun _ => ?_) (fun _ => ?_) | refine ci_t (by omega) ?_ | refine ci_f (by omega) ?_ | refine ite_t (by omega) ?_ | refine ite_f (by omega) ?_ | refine bd_t (S_209) ?_ | refine bd_t (S_315) ?_ | refine bd_t (S_320 (by omega)) ?_ | refine (T_322_0 ..).trans ?_ | refine (T_322_5 ..).trans ?_ | refine (T_322_17 ..).trans ?_ | refine (T_322_27 ..).trans ?_ | refine (T_322_66 ..).trans ?_ | refine (T_322_77 ..).trans ?_ | refine ci_c (fun _ => ?_) (fun _ => ?_))
  all_goals first | rfl | (exfalso; omega)
end O10
section O10b
variable {I : Nat → Nat → Int} {sp rt : Nat} {tt : Nat → Nat} {z : Zs}
theorem o_knew (w m f : Int) (hh : InvS I) : OpR 172 322 [(0, w), (0, m), (0, f)] I sp rt tt z := by
  have hC := hh.2.2.1
  have c1 := hC.1.1
  have hW := hh.2.2.2.1
  have w1 := hW.1
  by_cases c : (0 ≤ w ∧ w < I 68 0) ∧ (0 ≤ m ∧ m ≤ 5000000) ∧ 0 ≤ f ∧ f ≤ 1
  · refine ⟨_, I, I, S_172y (by omega) c, (S_322y (by omega) (by omega) (by omega)).trans (eqv ?_), hh, rfl⟩
    have hw : w.toNat < (I 68 0).toNat := by omega
    have e1 : itr (fun (i : Nat) (a : Int) => if 0 ≤ I 153 (40 * w + i).toNat ∧ I 153 (40 * w + i).toNat ≤ m then io32 a (if w32 (Int.tdiv i 20) = f then shl32 1 (Int.tmod i 20) else 0) else a) (I 82 4).toNat 0 = itr (GB (fun h => ¬ I 70 (40 * w.toNat + h) = -1 ∧ I 70 (40 * w.toNat + h) ≤ m) f) (I 82 4).toNat 0 := by
      refine (itr_in (fun a => in32 a) (by unfold in32; omega) (fun i a hi ha => ?_) (fun i a hi ha => ?_)).1
      · split
        · exact io32_in _ _
        · exact ha
      · have ei : (40 * w + (i : Int)).toNat = 40 * w.toNat + i := by omega
        have a1 := hW.2.2.2.1 w.toNat i hw (by omega)
        have a2 := (hW.2.2.2.2.2.1 w.toNat i hw (by omega)).1
        unfold GB
        rw [ei, a1]
        by_cases e : 0 ≤ I 70 (40 * w.toNat + i) ∧ I 70 (40 * w.toNat + i) ≤ m
        · rw [if_pos e]
          have e' : ¬ I 70 (40 * w.toNat + i) = -1 ∧ I 70 (40 * w.toNat + i) ≤ m := by omega
          by_cases g : w32 (Int.tdiv (i : Int) 20) = f
          · rw [if_pos g, if_pos ⟨e', g⟩]
          · rw [if_neg g, if_neg (fun q => g q.2), io32_0 ha]
        · rw [if_neg e, if_neg (fun q => e (by have := q.1; omega))]
    have e2 : itr (fun (i : Nat) (a : Int) => if ¬ I 70 (40 * w + (20 * f + i)).toNat = -1 ∧ I 70 (40 * w + (20 * f + i)).toNat ≤ m then io32 a (shl32 1 i) else a) 20 0 = itr (fun (b : Nat) (a : Int) => if ¬ I 70 (40 * w.toNat + ((20 * f).toNat + b)) = -1 ∧ I 70 (40 * w.toNat + ((20 * f).toNat + b)) ≤ m then io32 a (shl32 1 (b : Int)) else a) 20 0 := by
      refine itr_congr (fun i a hi => ?_)
      have ei : (40 * w + (20 * f + (i : Int))).toNat = 40 * w.toNat + ((20 * f).toNat + i) := by omega
      rw [ei]
    rw [e1, e2]
    refine GB_40 (fun h => ¬ I 70 (40 * w.toNat + h) = -1 ∧ I 70 (40 * w.toNat + h) ≤ m) (by omega) (fun h h1 h2 q => ?_) (by omega)
    have a3 := (hW.2.2.2.2.2.1 w.toNat h hw h2).2 q.1
    omega
  · exact ⟨-1, I, I, S_172n (by omega) c, S_322n (by omega) (by omega), hh, rfl⟩
theorem o_tell (w a b : Int) (hh : InvS I) : OpR 165 319 [(0, w), (0, a), (0, b)] I sp rt tt z := by
  obtain ⟨hT, hP, hC, hW, hL, hI, hS⟩ := hh
  have c1 := hC.1
  have w1 := hW.1
  have t1 := hT.1
  have a1 := hC.2.1.1 b.toNat
  have a2 := hW.2.1 w.toNat
  have a3 : (0 ≤ w ∧ w < I 68 0) ∧ (0 ≤ a ∧ a < I 55 0) → I 153 (40 * w + a).toNat = I 70 (40 * w + a).toNat := fun q => by
    have q2 := hW.2.2.2.1 w.toNat a.toNat (by omega) (by omega)
    rw [show (40 * w + a).toNat = 40 * w.toNat + a.toNat by omega]
    exact q2
  have a4 : (0 ≤ w ∧ w < I 68 0) ∧ (0 ≤ b ∧ b < I 55 0) → I 153 (40 * w + b).toNat = I 70 (40 * w + b).toNat := fun q => by
    have q2 := hW.2.2.2.1 w.toNat b.toNat (by omega) (by omega)
    rw [show (40 * w + b).toNat = 40 * w.toNat + b.toNat by omega]
    exact q2
  by_cases c0 : ((0 ≤ w ∧ w < I 68 0) ∧ (0 ≤ a ∧ a < I 55 0) ∧ (0 ≤ b ∧ b < I 55 0) ∧ I 56 b.toNat = I 69 w.toNat) ∧ ¬ I 70 (40 * w + a).toNat = -1 ∧ I 70 (40 * w + b).toNat = -1
  · refine ⟨1, _, _, (S_165 (by show 0 ≤ I 55 0 ∧ I 55 0 ≤ 40; first | omega | assumption) (by show 0 ≤ I 68 0 ∧ I 68 0 ≤ 60; first | omega | assumption)).trans (if_pos c0), (S_319 (by show 0 ≤ I 82 4 ∧ I 82 4 ≤ 40; first | omega | assumption) (by show 0 ≤ I 82 15 ∧ I 82 15 ≤ 60; first | omega | assumption)).trans ((if_pos (by show (0 ≤ w ∧ w < I 82 15) ∧ (0 ≤ a ∧ a < I 82 4) ∧ (0 ≤ b ∧ b < I 82 4) ∧ I 91 b.toNat = I 152 w.toNat ∧ ¬ I 153 (40 * w + a).toNat = -1 ∧ I 153 (40 * w + b).toNat = -1; omega)).trans (eqv (by show 1 = 1; omega))), ⟨hT, hP, hC, ?_, hL, hI, hS⟩, ?_⟩
    · unfold GW
      repeat' apply And.intro
      · first | exact hW.1.1 | (have q := hW.1.1; have q0 := hW.1; have q3 := hT.1; have q4 := hC.1.1; simp only [up2_def]; grind)
      · first | exact hW.1.2.1 | (have q := hW.1.2.1; have q0 := hW.1; have q3 := hT.1; have q4 := hC.1.1; simp only [up2_def]; grind)
      · first | exact hW.1.2.2 | (have q := hW.1.2.2; have q0 := hW.1; have q3 := hT.1; have q4 := hC.1.1; simp only [up2_def]; grind)
      · first | exact hW.2.1 | (have q := hW.2.1; have q0 := hW.1; have q3 := hT.1; have q4 := hC.1.1; simp only [up2_def]; grind)
      · first | exact hW.2.2.1 | (have q := hW.2.2.1; have q0 := hW.1; have q3 := hT.1; have q4 := hC.1.1; simp only [up2_def]; grind)
      · first | exact hW.2.2.2.1 | (have q := hW.2.2.2.1; have q0 := hW.1; have q3 := hT.1; have q4 := hC.1.1; simp only [up2_def]; grind)
      · first | exact hW.2.2.2.2.1 | (have q := hW.2.2.2.2.1; have q0 := hW.1; have q3 := hT.1; have q4 := hC.1.1; simp only [up2_def]; grind)
      · first | exact hW.2.2.2.2.2.1 | (have q := hW.2.2.2.2.2.1; have q0 := hW.1; have q3 := hT.1; have q4 := hC.1.1; simp only [up2_def]; grind)
      · first | exact hW.2.2.2.2.2.2 | (have q := hW.2.2.2.2.2.2; have q0 := hW.1; have q3 := hT.1; have q4 := hC.1.1; simp only [up2_def]; grind)
    · repeat (first | rfl | refine (rs_up (by rfl)).trans ?_)
  refine ⟨0, _, _, (S_165 (by show 0 ≤ I 55 0 ∧ I 55 0 ≤ 40; first | omega | assumption) (by show 0 ≤ I 68 0 ∧ I 68 0 ≤ 60; first | omega | assumption)).trans (if_neg c0), (S_319 (by show 0 ≤ I 82 4 ∧ I 82 4 ≤ 40; first | omega | assumption) (by show 0 ≤ I 82 15 ∧ I 82 15 ≤ 60; first | omega | assumption)).trans (if_neg (by show ¬ ((0 ≤ w ∧ w < I 82 15) ∧ (0 ≤ a ∧ a < I 82 4) ∧ (0 ≤ b ∧ b < I 82 4) ∧ I 91 b.toNat = I 152 w.toNat ∧ ¬ I 153 (40 * w + a).toNat = -1 ∧ I 153 (40 * w + b).toNat = -1); omega)), ⟨hT, hP, hC, hW, hL, hI, hS⟩, rfl⟩
end O10b

