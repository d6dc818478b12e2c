/-! calls that gather bits: had, knew -/
theorem io32_in (x y : Int) : in32 (io32 x y) := in32_to _
theorem io32_0 {x : Int} (h : in32 x) : io32 x 0 = x := by
  have e : Int32.ofInt x ||| Int32.ofInt 0 = Int32.ofInt x := Int32.or_zero
  unfold io32
  rw [e]
  exact I3_to h
theorem itr_in {α : Type} {F F' : Nat → α → α} (P : α → Prop) : ∀ {n : Nat} {s : α}, P s → (∀ i a, i < n → P a → P (F i a)) → (∀ i a, i < n → P a → F i a = F' i a) → itr F n s = itr F' n s ∧ P (itr F n s)
  | 0, _, h, _, _ => ⟨rfl, h⟩
  | n + 1, s, h, h1, h2 => by
    obtain ⟨e, p⟩ := itr_in P (n := n) h (fun i a hi => h1 i a (Nat.lt_succ_of_lt hi)) (fun i a hi => h2 i a (Nat.lt_succ_of_lt hi))
    refine ⟨?_, h1 n _ (Nat.lt_succ_self n) p⟩
    show F n (itr F n s) = F' n (itr F' n s)
    rw [← e]
    exact h2 n _ (Nat.lt_succ_self n) p
theorem itr_add {α : Type} (F : Nat → α → α) (a : Nat) (s : α) : ∀ b : Nat, itr F (a + b) s = itr (fun i => F (a + i)) b (itr F a s)
  | 0 => rfl
  | b + 1 => by
    show F (a + b) (itr F (a + b) s) = F (a + b) (itr (fun i => F (a + i)) b (itr F a s))
    rw [itr_add F a s b]
theorem itr_id {α : Type} {F : Nat → α → α} : ∀ {n : Nat} {s : α}, (∀ i, i < n → F i s = s) → itr F n s = s
  | 0, _, _ => rfl
  | n + 1, s, h => by
    show F n (itr F n s) = s
    rw [itr_id (fun i hi => h i (Nat.lt_succ_of_lt hi))]
    exact h n (Nat.lt_succ_self n)
section O8
variable {d : Nat} {I : Nat → Nat → Int} {sp rt : Nat} {tt : Nat → Nat} {z : Zs}
theorem S_157y {l m f : Int} (h0 : 0 ≤ I 55 7 ∧ I 55 7 ≤ 300) (h3 : ∀ o : Nat, o < (I 55 7).toNat → -1 ≤ I 62 o ∧ I 62 o < 60) (c : (0 ≤ l ∧ l ≤ 9) ∧ (0 ≤ m ∧ m ≤ I 0 0) ∧ 0 ≤ f ∧ f ≤ 1) : Call PG (d + 3) 157 [(2, 0), (0, l), (0, m), (0, f)] (I, RF sp rt tt z.1, z) = some (some (0, itr (fun (i : Nat) (a : Int) => if (¬ I 62 i = -1 ∧ I 59 (I 62 i).toNat = l) ∧ (I 63 i = -1 ∨ m ≤ I 63 i) ∧ w32 (Int.tdiv (I 61 i) 20) = f then io32 a (shl32 1 (Int.tmod (I 61 i) 20)) else a) (I 55 7).toNat 0), (I, RF sp rt tt z.1, z)) := by
  refine (K_157 ..).trans ?_
  repeat' (first | refine ci_bt (by omega) ?_ | refine ci_bf (by omega) ?_ | refine ite_b01 ?_ | refine ci_b (fun _ => ?_) (fun _ => ?_) | refine ci_t (by omega) ?_ | refine ci_f (by omega) ?_ | refine ite_t (by omega) ?_ | refine ite_f (by omega) ?_ | refine bd_t (S_13) ?_ | refine bd_t (S_158 (by omega) (by omega) (by assumption)) ?_ | refine (T_157_0 ..).trans ?_ | refine (T_157_9 ..).trans ?_ | refine (T_157_18 ..).trans ?_ | refine (T_157_33 ..).trans ?_ | refine ci_c (fun _ => ?_) (fun _ => ?_))
  all_goals first | rfl | (exfalso; omega)
theorem S_157n {l m f : Int} (h0 : 0 ≤ I 55 7 ∧ I 55 7 ≤ 300) (h3 : ∀ o : Nat, o < (I 55 7).toNat → -1 ≤ I 62 o ∧ I 62 o < 60) (c : ¬ ((0 ≤ l ∧ l ≤ 9) ∧ (0 ≤ m ∧ m ≤ I 0 0) ∧ 0 ≤ f ∧ f ≤ 1)) : Call PG (d + 3) 157 [(2, 0), (0, l), (0, m), (0, f)] (I, RF sp rt tt z.1, z) = some (some (0, -1), (I, RF sp rt tt z.1, z)) := by
  refine (K_157 ..).trans ?_
  by_cases g : 0 ≤ l ∧ l ≤ 9
  · skip
    repeat' (first | refine ci_bt (by omega) ?_ | refine ci_bf (by omega) ?_ | refine ite_b01 ?_ | refine ci_b (fun _ => ?_) (fun _ => ?_) | refine ci_t (by omega) ?_ | refine ci_f (by omega) ?_ | refine ite_t (by omega) ?_ | refine ite_f (by omega) ?_ | refine bd_t (S_13) ?_ | refine bd_t (S_158 (by omega) (by omega) (by assumption)) ?_ | refine (T_157_0 ..).trans ?_ | refine (T_157_9 ..).trans ?_ | refine (T_157_18 ..).trans ?_ | refine (T_157_33 ..).trans ?_ | refine ci_c (fun _ => ?_) (fun _ => ?_))
    all_goals first | rfl | (exfalso; omega)
  · have ee := S_158n (d := d) (I := I) (sp := sp) (rt := rt) (tt := tt) (z := z) (l := l) (m := m) (f := f) g
    repeat' (first | refine bd_t ee ?_ | refine ci_bt (by omega) ?_ | refine ci_bf (by omega) ?_ | refine ite_b01 ?_ | refine ci_b (fun _ => ?_) (fun _ => ?_) | refine ci_t (by omega) ?_ | refine ci_f (by omega) ?_ | refine ite_t (by omega) ?_ | refine ite_f (by omega) ?_ | refine bd_t (S_13) ?_ | refine bd_t (S_158 (by omega) (by omega) (by assumption)) ?_ | refine (T_157_0 ..).trans ?_ | refine (T_157_9 ..).trans ?_ | refine (T_157_18 ..).trans ?_ | refine (T_157_33 ..).trans ?_ | refine ci_c (fun _ => ?_) (fun _ => ?_))
    all_goals first | rfl | (exfalso; omega)
theorem S_314y {l m f : Int} (h0 : 0 ≤ I 82 13 ∧ I 82 13 ≤ 300) (h3 : ∀ o : Nat, o < (I 82 13).toNat → -1 ≤ I 148 o ∧ I 148 o < 60) (c : (0 ≤ l ∧ l ≤ 9) ∧ (0 ≤ m ∧ m ≤ I 82 2) ∧ 0 ≤ f ∧ f ≤ 1) : Call PG (d + 2) 314 [(2, 82), (0, l), (0, m), (0, f)] (I, RF sp rt tt z.1, z) = some (some (0, itr (fun (i : Nat) (a : Int) => if ¬ I 148 i = -1 ∧ I 145 (I 148 i).toNat = l ∧ (I 149 i = -1 ∨ m ≤ I 149 i) then io32 a (if w32 (Int.tdiv (I 147 i) 20) = f then shl32 1 (Int.tmod (I 147 i) 20) else 0) else a) (I 82 13).toNat 0), (I, RF sp rt tt z.1, z)) := by
  refine (K_314 ..).trans ?_
  repeat' (first | refine ci_bt (by omega) ?_ | refine ci_bf (by omega) ?_ | refine ite_b01 ?_ | refine ci_b (fun _ => ?_) (fun _ => ?_) | refine ci_t (by omega) ?_ | refine ci_f (by omega) ?_ | refine ite_t (by omega) ?_ | refine ite_f (by omega) ?_ | refine bd_t (S_209) ?_ | refine bd_t (S_315) ?_ | refine (T_314_0 ..).trans ?_ | refine (T_314_9 ..).trans ?_ | refine (T_314_23 ..).trans ?_ | refine (T_314_33 ..).trans ?_ | refine (T_314_115 ..).trans ?_ | refine ci_c (fun _ => ?_) (fun _ => ?_))
  refine loop_p (fun (i : Nat) (a : Int) => if ¬ I 148 i = -1 ∧ I 145 (I 148 i).toNat = l ∧ (I 149 i = -1 ∨ m ≤ I 149 i) then io32 a (if w32 (Int.tdiv (I 147 i) 20) = f then shl32 1 (Int.tmod (I 147 i) 20) else 0) else a) (fun (i : Nat) (a : Int) => Run PG (Call PG (d + 1)) 314 44 [(2, 82), (0, l), (0, m), (0, f), (0, a), (0, (i : Int))] [] (I, RF sp rt tt z.1, z) (0, 0) = some (some (0, itr (fun (i : Nat) (a : Int) => if ¬ I 148 i = -1 ∧ I 145 (I 148 i).toNat = l ∧ (I 149 i = -1 ∨ m ≤ I 149 i) then io32 a (if w32 (Int.tdiv (I 147 i) 20) = f then shl32 1 (Int.tmod (I 147 i) 20) else 0) else a) (I 82 13).toNat 0), (I, RF sp rt tt z.1, z))) ((I 82 13).toNat) (0) ?_ ?_
  · intro i a hi _ hr
    have hr : Run PG (Call PG (d + 1)) 314 44 [(2, 82), (0, l), (0, m), (0, f), (0, if ¬ I 148 i = -1 ∧ I 145 (I 148 i).toNat = l ∧ (I 149 i = -1 ∨ m ≤ I 149 i) then io32 a (if w32 (Int.tdiv (I 147 i) 20) = f then shl32 1 (Int.tmod (I 147 i) 20) else 0) else a), (0, (i : Int) + 1)] [] (I, RF sp rt tt z.1, z) (0, 0) = some (some (0, itr (fun (i : Nat) (a : Int) => if ¬ I 148 i = -1 ∧ I 145 (I 148 i).toNat = l ∧ (I 149 i = -1 ∨ m ≤ I 149 i) then io32 a (if w32 (Int.tdiv (I 147 i) 20) = f then shl32 1 (Int.tmod (I 147 i) 20) else 0) else a) (I 82 13).toNat 0), (I, RF sp rt tt z.1, z)) := hr
    have b := h3 i (by omega)
    refine (T_314_44 ..).trans ?_
    try simp only [Int.toNat_natCast]
    by_cases c : ¬ I 148 i = -1 ∧ I 145 (I 148 i).toNat = l ∧ (I 149 i = -1 ∨ m ≤ I 149 i)
    · simp only [if_pos c] at hr
      repeat' (first | refine ci_bt (by omega) ?_ | refine ci_bf (by omega) ?_ | refine ite_b01 ?_ | refine ci_b (fun _ => ?_) (fun _ => ?_) | refine ci_t (by omega) ?_ | refine ci_f (by omega) ?_ | refine ite_t (by omega) ?_ | refine ite_f (by omega) ?_ | refine bd_t (S_209) ?_ | refine bd_t (S_315) ?_ | refine (T_314_0 ..).trans ?_ | refine (T_314_9 ..).trans ?_ | refine (T_314_23 ..).trans ?_ | refine (T_314_33 ..).trans ?_ | refine (T_314_115 ..).trans ?_ | refine ci_c (fun _ => ?_) (fun _ => ?_))
      all_goals first | omega | ((try simp (disch := omega) only [w32_of]); exact hr)
    · simp only [if_neg c] at hr
      repeat' (first | refine ci_bt (by omega) ?_ | refine ci_bf (by omega) ?_ | refine ite_b01 ?_ | refine ci_b (fun _ => ?_) (fun _ => ?_) | refine ci_t (by omega) ?_ | refine ci_f (by omega) ?_ | refine ite_t (by omega) ?_ | refine ite_f (by omega) ?_ | refine bd_t (S_209) ?_ | refine bd_t (S_315) ?_ | refine (T_314_0 ..).trans ?_ | refine (T_314_9 ..).trans ?_ | refine (T_314_23 ..).trans ?_ | refine (T_314_33 ..).trans ?_ | refine (T_314_115 ..).trans ?_ | refine ci_c (fun _ => ?_) (fun _ => ?_))
      all_goals first | omega | ((try simp (disch := omega) only [w32_of]); exact hr)
  · skip
    refine (T_314_44 ..).trans ?_
    repeat' (first | refine ci_bt (by omega) ?_ | refine ci_bf (by omega) ?_ | refine ite_b01 ?_ | refine ci_b (fun _ => ?_) (fun _ => ?_) | refine ci_t (by omega) ?_ | refine ci_f (by omega) ?_ | refine ite_t (by omega) ?_ | refine ite_f (by omega) ?_ | refine bd_t (S_209) ?_ | refine bd_t (S_315) ?_ | refine (T_314_0 ..).trans ?_ | refine (T_314_9 ..).trans ?_ | refine (T_314_23 ..).trans ?_ | refine (T_314_33 ..).trans ?_ | refine (T_314_115 ..).trans ?_ | refine ci_c (fun _ => ?_) (fun _ => ?_))
    all_goals rfl
theorem S_314n {l m f : Int} (c : ¬ ((0 ≤ l ∧ l ≤ 9) ∧ (0 ≤ m ∧ m ≤ I 82 2) ∧ 0 ≤ f ∧ f ≤ 1)) : Call PG (d + 2) 314 [(2, 82), (0, l), (0, m), (0, f)] (I, RF sp rt tt z.1, z) = some (some (0, -1), (I, RF sp rt tt z.1, z)) := by
  refine (K_314 ..).trans ?_
  repeat' (first | refine ci_bt (by omega) ?_ | refine ci_bf (by omega) ?_ | refine ite_b01 ?_ | refine ci_b (fun _ => ?_) (fun _ => ?_) | refine ci_t (by omega) ?_ | refine ci_f (by omega) ?_ | refine ite_t (by omega) ?_ | refine ite_f (by omega) ?_ | refine bd_t (S_209) ?_ | refine bd_t (S_315) ?_ | refine (T_314_0 ..).trans ?_ | refine (T_314_9 ..).trans ?_ | refine (T_314_23 ..).trans ?_ | refine (T_314_33 ..).trans ?_ | refine (T_314_115 ..).trans ?_ | refine ci_c (fun _ => ?_) (fun _ => ?_))
  all_goals first | rfl | (exfalso; omega)
end O8
section O8b
variable {I : Nat → Nat → Int} {sp rt : Nat} {tt : Nat → Nat} {z : Zs}
theorem o_had (l m f : Int) (hh : InvS I) : OpR 157 314 [(0, l), (0, m), (0, f)] I sp rt tt z := by
  have t1 := hh.1.1
  have hC := hh.2.2.1
  have c1 := hC.1
  have b62 : ∀ o : Nat, o < (I 55 7).toNat → -1 ≤ I 62 o ∧ I 62 o < 60 := fun o ho => by
    have q := hC.2.2.2.1 o ho
    omega
  by_cases c : (0 ≤ l ∧ l ≤ 9) ∧ (0 ≤ m ∧ m ≤ I 0 0) ∧ 0 ≤ f ∧ f ≤ 1
  · refine ⟨_, I, I, S_157y (by omega) b62 c, (S_314y (by omega) (fun o ho => ?_) (by omega)).trans (eqv ?_), hh, rfl⟩
    · rw [hC.2.1.2.2.2.2.2.2.1 o]
      exact b62 o (by omega)
    · rw [c1.2.2.1.1]
      refine (itr_in (fun a => in32 a) (by unfold in32; omega) (fun i a hi ha => ?_) (fun i a hi ha => ?_)).1
      · split
        · exact io32_in _ _
        · exact ha
      · rw [hC.2.1.2.2.2.2.2.1 i, hC.2.1.2.2.2.2.2.2.1 i, hC.2.1.2.2.2.2.2.2.2.1 i, hC.2.1.2.2.2.1 (I 62 i).toNat]
        by_cases e1 : ¬ I 62 i = -1 ∧ I 59 (I 62 i).toNat = l ∧ (I 63 i = -1 ∨ m ≤ I 63 i)
        · rw [if_pos e1]
          by_cases e2 : w32 (Int.tdiv (I 61 i) 20) = f
          · rw [if_pos e2, if_pos ⟨⟨e1.1, e1.2.1⟩, e1.2.2, e2⟩]
          · rw [if_neg e2, if_neg (fun w => e2 w.2.2), io32_0 ha]
        · rw [if_neg e1, if_neg (fun w => e1 ⟨w.1.1, w.1.2, w.2.1⟩)]
  · exact ⟨-1, I, I, S_157n (by omega) b62 c, S_314n (by omega), hh, rfl⟩
end O8b

