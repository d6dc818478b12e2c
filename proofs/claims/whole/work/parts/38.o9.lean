/-! knew -/
/-- the bits of half f of those in 0 .. n-1 of whom c says yes -/
def GB (c : Nat → Prop) [DecidablePred c] (f : Int) (h : Nat) (a : Int) : Int := if c h ∧ w32 (Int.tdiv (h : Int) 20) = f then io32 a (shl32 1 (Int.tmod (h : Int) 20)) else a
theorem d20 {h : Nat} (hh : h < 20) : w32 (Int.tdiv (h : Int) 20) = 0 ∧ Int.tmod (h : Int) 20 = h := by
  rw [Int.tdiv_eq_ediv_of_nonneg (by omega), Int.tmod_eq_emod_of_nonneg (by omega)]
  have e : (h : Int) / 20 = 0 := by omega
  rw [e]
  exact ⟨by decide, by omega⟩
theorem d40 {h : Nat} (hh : h < 20) : w32 (Int.tdiv ((20 + h : Nat) : Int) 20) = 1 ∧ Int.tmod ((20 + h : Nat) : Int) 20 = h := by
  rw [Int.tdiv_eq_ediv_of_nonneg (by omega), Int.tmod_eq_emod_of_nonneg (by omega)]
  have e : ((20 + h : Nat) : Int) / 20 = 1 := by omega
  rw [e]
  exact ⟨by decide, by omega⟩
theorem GB_40 (c : Nat → Prop) [DecidablePred c] {f : Int} {n k : Nat} (hn : n ≤ 40) (hc : ∀ h, n ≤ h → h < 40 → ¬ c h) (hf : f = 20 * 0 ∧ k = 0 ∨ f = 1 ∧ k = 20) : itr (GB c f) n 0 = itr (fun (b : Nat) (a : Int) => if c (k + b) then io32 a (shl32 1 (b : Int)) else a) 20 0 := by
  have e1 : itr (GB c f) 40 0 = itr (GB c f) n 0 := by
    have e := itr_add (GB c f) n 0 (40 - n)
    rw [show n + (40 - n) = 40 by omega] at e
    rw [e]
    refine itr_id (fun i hi => ?_)
    unfold GB
    rw [if_neg (fun w => hc (n + i) (by omega) (by omega) w.1)]
  rw [← e1]
  have e2 : itr (GB c f) 40 0 = itr (fun i => GB c f (20 + i)) 20 (itr (GB c f) 20 0) := itr_add (GB c f) 20 0 20
  rw [e2]
  rcases hf with ⟨rfl, rfl⟩ | ⟨rfl, rfl⟩
  · have e3 : itr (fun i => GB c (20 * 0) (20 + i)) 20 (itr (GB c (20 * 0)) 20 0) = itr (GB c (20 * 0)) 20 0 := itr_id (fun i hi => by
      unfold GB
      rw [if_neg (fun w => by have := w.2; rw [(d40 hi).1] at this; omega)])
    rw [e3]
    refine itr_congr (fun i a hi => ?_)
    unfold GB
    rw [(d20 hi).1, (d20 hi).2, Nat.zero_add]
    by_cases w : c i
    · rw [if_pos ⟨w, rfl⟩, if_pos w]
    · rw [if_neg (fun q => w q.1), if_neg w]
  · have e3 : itr (GB c 1) 20 0 = 0 := itr_id (fun i hi => by
      unfold GB
      rw [if_neg (fun w => by have := w.2; rw [(d20 hi).1] at this; omega)])
    rw [e3]
    refine itr_congr (fun i a hi => ?_)
    unfold GB
    rw [(d40 hi).1, (d40 hi).2]
    by_cases w : c (20 + i)
    · rw [if_pos ⟨w, rfl⟩, if_pos w]
    · rw [if_neg (fun q => w q.1), if_neg w]
section O9
variable {d : Nat} {I : Nat → Nat → Int} {sp rt : Nat} {tt : Nat → Nat} {z : Zs}
theorem S_173 {w m f : Int} (h0 : 0 ≤ w ∧ w < 60) (h1 : 0 ≤ f ∧ f ≤ 1) : Call PG (d + 2) 173 [(2, 68), (0, w), (0, m), (0, f)] (I, RF sp rt tt z.1, z) = some (some (0, itr (fun (i : Nat) (a : Int) => if ¬ I 70 (40 * w + (20 * f + i)).toNat = -1 ∧ I 70 (40 * w + (20 * f + i)).toNat ≤ m then io32 a (shl32 1 i) else a) 20 0), (I, RF sp rt tt z.1, z)) := by
  refine (K_173 ..).trans ?_
  refine (T_173_0 ..).trans ?_
  refine loop_p (fun (i : Nat) (a : Int) => if ¬ I 70 (40 * w + (20 * f + i)).toNat = -1 ∧ I 70 (40 * w + (20 * f + i)).toNat ≤ m then io32 a (shl32 1 i) else a) (fun (i : Nat) (a : Int) => ∀ d6, dl d6 → Run PG (Call PG (d + 1)) 173 6 [(2, 68), (0, w), (0, m), (0, f), (0, a), (0, (i : Int)), d6] [] (I, RF sp rt tt z.1, z) (0, 0) = some (some (0, itr (fun (i : Nat) (a : Int) => if ¬ I 70 (40 * w + (20 * f + i)).toNat = -1 ∧ I 70 (40 * w + (20 * f + i)).toNat ≤ m then io32 a (shl32 1 i) else a) 20 0), (I, RF sp rt tt z.1, z))) (20) (0) ?_ ?_ _ dl9
  · intro i a hi _ hr d6 hd6
    have hr : ∀ d6, dl d6 → Run PG (Call PG (d + 1)) 173 6 [(2, 68), (0, w), (0, m), (0, f), (0, if ¬ I 70 (40 * w + (20 * f + i)).toNat = -1 ∧ I 70 (40 * w + (20 * f + i)).toNat ≤ m then io32 a (shl32 1 i) else a), (0, (i : Int) + 1), d6] [] (I, RF sp rt tt z.1, z) (0, 0) = some (some (0, itr (fun (i : Nat) (a : Int) => if ¬ I 70 (40 * w + (20 * f + i)).toNat = -1 ∧ I 70 (40 * w + (20 * f + i)).toNat ≤ m then io32 a (shl32 1 i) else a) 20 0), (I, RF sp rt tt z.1, z)) := hr
    have j1 : w32 (w32 (f * 20) + (i : Int)) = 20 * f + i := by rw [w32_of (x := f * 20) (by omega) (by omega), w32_of (by omega) (by omega)]; omega
    have j2 : w32 (w32 (w * 40) + (20 * f + (i : Int))) = 40 * w + (20 * f + i) := by rw [w32_of (x := w * 40) (by omega) (by omega), w32_of (by omega) (by omega)]; omega
    refine (T_173_6 _ _ _ _ _ _ _ _ _ _ _ _ (by assumption)).trans ?_
    try simp only [Int.toNat_natCast]
    by_cases c : ¬ I 70 (40 * w + (20 * f + i)).toNat = -1 ∧ I 70 (40 * w + (20 * f + i)).toNat ≤ m
    · simp only [if_pos c] at hr
      repeat' (first | rw [j1] | rw [j2] | refine ci_bt (by omega) ?_ | refine ci_bf (by omega) ?_ | refine ite_b01 ?_ | refine ci_b (fun _ => ?_) (fun _ => ?_) | refine ci_t (by omega) ?_ | refine ci_f (by omega) ?_ | refine ite_t (by omega) ?_ | refine ite_f (by omega) ?_ | refine bd_t (S_168 (by omega) (by omega)) ?_ | refine (T_173_0 ..).trans ?_ | refine (T_173_29 ..).trans ?_ | refine ci_c (fun _ => ?_) (fun _ => ?_))
      all_goals first | omega | ((try simp (disch := omega) only [w32_of]); exact hr _ (dl0 _))
    · simp only [if_neg c] at hr
      repeat' (first | rw [j1] | rw [j2] | refine ci_bt (by omega) ?_ | refine ci_bf (by omega) ?_ | refine ite_b01 ?_ | refine ci_b (fun _ => ?_) (fun _ => ?_) | refine ci_t (by omega) ?_ | refine ci_f (by omega) ?_ | refine ite_t (by omega) ?_ | refine ite_f (by omega) ?_ | refine bd_t (S_168 (by omega) (by omega)) ?_ | refine (T_173_0 ..).trans ?_ | refine (T_173_29 ..).trans ?_ | refine ci_c (fun _ => ?_) (fun _ => ?_))
      all_goals first | omega | ((try simp (disch := omega) only [w32_of]); exact hr _ (dl0 _))
  · intro d6 hd6 
    refine (T_173_6 _ _ _ _ _ _ _ _ _ _ _ _ (by assumption)).trans ?_
    repeat' (first | rw [j1] | rw [j2] | refine ci_bt (by omega) ?_ | refine ci_bf (by omega) ?_ | refine ite_b01 ?_ | refine ci_b (fun _ => ?_) (fun _ => ?_) | refine ci_t (by omega) ?_ | refine ci_f (by omega) ?_ | refine ite_t (by omega) ?_ | refine ite_f (by omega) ?_ | refine bd_t (S_168 (by omega) (by omega)) ?_ | refine (T_173_0 ..).trans ?_ | refine (T_173_29 ..).trans ?_ | refine ci_c (fun _ => ?_) (fun _ => ?_))
    all_goals rfl
end O9

