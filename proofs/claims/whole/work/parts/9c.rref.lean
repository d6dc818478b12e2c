/-! texts: the second reader's small methods -/
/-- its heap: where, the fault, how many codes, how many are not closed, how high the stack, the two marks, codes, their numbers, stack -/
def HR (I : Nat → Nat → Int) (p : Nat) (bad : Int) (cs : Nat) (op : Int) (sd : Nat) (dn bh : Int) (co ar st : Nat → Int) : Nat → Nat → Int := fun a j =>
  if a = 82 ∧ j = 45 then (p : Int) else if a = 82 ∧ j = 47 then bad else if a = 82 ∧ j = 49 then (cs : Int) else if a = 82 ∧ j = 50 then op else if a = 82 ∧ j = 51 then (sd : Int) else if a = 82 ∧ j = 52 then dn else if a = 82 ∧ j = 53 then bh else if a = 106 then co j else if a = 107 then ar j else if a = 108 then st j else I a j
section RR0
variable {I : Nat → Nat → Int} {p cs sd : Nat} {bad op dn bh x : Int} {co ar st : Nat → Int} {j : Nat}
theorem hr_p : HR I p bad cs op sd dn bh co ar st 82 45 = (p : Int) := by unfold HR; rw [if_pos ⟨rfl, rfl⟩]
theorem hr_bad : HR I p bad cs op sd dn bh co ar st 82 47 = bad := by unfold HR; rw [if_neg (fun h => absurd h.2 (by decide)), if_pos ⟨rfl, rfl⟩]
theorem hr_cs : HR I p bad cs op sd dn bh co ar st 82 49 = (cs : Int) := by unfold HR; rw [if_neg (fun h => absurd h.2 (by decide)), if_neg (fun h => absurd h.2 (by decide)), if_pos ⟨rfl, rfl⟩]
theorem hr_op : HR I p bad cs op sd dn bh co ar st 82 50 = op := by unfold HR; rw [if_neg (fun h => absurd h.2 (by decide)), if_neg (fun h => absurd h.2 (by decide)), if_neg (fun h => absurd h.2 (by decide)), if_pos ⟨rfl, rfl⟩]
theorem hr_sd : HR I p bad cs op sd dn bh co ar st 82 51 = (sd : Int) := by unfold HR; rw [if_neg (fun h => absurd h.2 (by decide)), if_neg (fun h => absurd h.2 (by decide)), if_neg (fun h => absurd h.2 (by decide)), if_neg (fun h => absurd h.2 (by decide)), if_pos ⟨rfl, rfl⟩]
theorem hr_dn : HR I p bad cs op sd dn bh co ar st 82 52 = dn := by unfold HR; rw [if_neg (fun h => absurd h.2 (by decide)), if_neg (fun h => absurd h.2 (by decide)), if_neg (fun h => absurd h.2 (by decide)), if_neg (fun h => absurd h.2 (by decide)), if_neg (fun h => absurd h.2 (by decide)), if_pos ⟨rfl, rfl⟩]
theorem hr_bh : HR I p bad cs op sd dn bh co ar st 82 53 = bh := by unfold HR; rw [if_neg (fun h => absurd h.2 (by decide)), if_neg (fun h => absurd h.2 (by decide)), if_neg (fun h => absurd h.2 (by decide)), if_neg (fun h => absurd h.2 (by decide)), if_neg (fun h => absurd h.2 (by decide)), if_neg (fun h => absurd h.2 (by decide)), if_pos ⟨rfl, rfl⟩]
theorem hr_co : HR I p bad cs op sd dn bh co ar st 106 j = co j := by unfold HR; rw [if_neg (fun h => absurd h.1 (by decide)), if_neg (fun h => absurd h.1 (by decide)), if_neg (fun h => absurd h.1 (by decide)), if_neg (fun h => absurd h.1 (by decide)), if_neg (fun h => absurd h.1 (by decide)), if_neg (fun h => absurd h.1 (by decide)), if_neg (fun h => absurd h.1 (by decide)), if_pos rfl]
theorem hr_ar : HR I p bad cs op sd dn bh co ar st 107 j = ar j := by unfold HR; rw [if_neg (fun h => absurd h.1 (by decide)), if_neg (fun h => absurd h.1 (by decide)), if_neg (fun h => absurd h.1 (by decide)), if_neg (fun h => absurd h.1 (by decide)), if_neg (fun h => absurd h.1 (by decide)), if_neg (fun h => absurd h.1 (by decide)), if_neg (fun h => absurd h.1 (by decide)), if_neg (by decide), if_pos rfl]
theorem hr_st : HR I p bad cs op sd dn bh co ar st 108 j = st j := by unfold HR; rw [if_neg (fun h => absurd h.1 (by decide)), if_neg (fun h => absurd h.1 (by decide)), if_neg (fun h => absurd h.1 (by decide)), if_neg (fun h => absurd h.1 (by decide)), if_neg (fun h => absurd h.1 (by decide)), if_neg (fun h => absurd h.1 (by decide)), if_neg (fun h => absurd h.1 (by decide)), if_neg (by decide), if_neg (by decide), if_pos rfl]
theorem hr_o {a : Nat} (h1 : ¬ a = 82 ∨ ¬ (j = 45 ∨ j = 47 ∨ (49 ≤ j ∧ j ≤ 53))) (h2 : ¬ a = 106 ∧ ¬ a = 107 ∧ ¬ a = 108) : HR I p bad cs op sd dn bh co ar st a j = I a j := by unfold HR; rw [if_neg (by omega), if_neg (by omega), if_neg (by omega), if_neg (by omega), if_neg (by omega), if_neg (by omega), if_neg (by omega), if_neg h2.1, if_neg h2.2.1, if_neg h2.2.2]
theorem hw_p {y : Nat} : up2 (HR I p bad cs op sd dn bh co ar st) 82 45 (y : Int) = HR I y bad cs op sd dn bh co ar st := by
  funext a j
  unfold up2 HR
  by_cases h : a = 82 ∧ j = 45
  · rw [if_pos h, if_pos h]
  · rw [if_neg h, if_neg h, if_neg h]
theorem hw_bad : up2 (HR I p bad cs op sd dn bh co ar st) 82 47 x = HR I p x cs op sd dn bh co ar st := by
  funext a j
  unfold up2 HR
  by_cases h : a = 82 ∧ j = 47
  · rw [if_pos h, if_neg (by omega), if_pos h]
  · rw [if_neg h, if_neg h, if_neg h]
theorem hw_cs {y : Nat} : up2 (HR I p bad cs op sd dn bh co ar st) 82 49 (y : Int) = HR I p bad y op sd dn bh co ar st := by
  funext a j
  unfold up2 HR
  by_cases h : a = 82 ∧ j = 49
  · rw [if_pos h, if_neg (by omega), if_neg (by omega), if_pos h]
  · rw [if_neg h, if_neg h, if_neg h]
theorem hw_op : up2 (HR I p bad cs op sd dn bh co ar st) 82 50 x = HR I p bad cs x sd dn bh co ar st := by
  funext a j
  unfold up2 HR
  by_cases h : a = 82 ∧ j = 50
  · rw [if_pos h, if_neg (by omega), if_neg (by omega), if_neg (by omega), if_pos h]
  · rw [if_neg h, if_neg h, if_neg h]
theorem hw_sd {y : Nat} : up2 (HR I p bad cs op sd dn bh co ar st) 82 51 (y : Int) = HR I p bad cs op y dn bh co ar st := by
  funext a j
  unfold up2 HR
  by_cases h : a = 82 ∧ j = 51
  · rw [if_pos h, if_neg (by omega), if_neg (by omega), if_neg (by omega), if_neg (by omega), if_pos h]
  · rw [if_neg h, if_neg h, if_neg h]
theorem hw_dn : up2 (HR I p bad cs op sd dn bh co ar st) 82 52 x = HR I p bad cs op sd x bh co ar st := by
  funext a j
  unfold up2 HR
  by_cases h : a = 82 ∧ j = 52
  · rw [if_pos h, if_neg (by omega), if_neg (by omega), if_neg (by omega), if_neg (by omega), if_neg (by omega), if_pos h]
  · rw [if_neg h, if_neg h, if_neg h]
theorem hw_bh : up2 (HR I p bad cs op sd dn bh co ar st) 82 53 x = HR I p bad cs op sd dn x co ar st := by
  funext a j
  unfold up2 HR
  by_cases h : a = 82 ∧ j = 53
  · rw [if_pos h, if_neg (by omega), if_neg (by omega), if_neg (by omega), if_neg (by omega), if_neg (by omega), if_neg (by omega), if_pos h]
  · rw [if_neg h, if_neg h, if_neg h]
theorem hw_co : up2 (HR I p bad cs op sd dn bh co ar st) 106 j x = HR I p bad cs op sd dn bh (uc co j x) ar st := by
  funext a k
  unfold up2 HR uc
  by_cases h : a = 106
  · by_cases h2 : k = j
    · rw [if_pos ⟨h, h2⟩, if_neg (by omega), if_neg (by omega), if_neg (by omega), if_neg (by omega), if_neg (by omega), if_neg (by omega), if_neg (by omega), if_pos h, if_pos h2]
    · rw [if_neg (fun q => h2 q.2), if_neg (by omega), if_neg (by omega), if_neg (by omega), if_neg (by omega), if_neg (by omega), if_neg (by omega), if_neg (by omega), if_pos h, if_neg (by omega), if_neg (by omega), if_neg (by omega), if_neg (by omega), if_neg (by omega), if_neg (by omega), if_neg (by omega), if_pos h, if_neg h2]
  · rw [if_neg (fun q => h q.1), if_neg h, if_neg h]
theorem hw_ar : up2 (HR I p bad cs op sd dn bh co ar st) 107 j x = HR I p bad cs op sd dn bh co (uc ar j x) st := by
  funext a k
  unfold up2 HR uc
  by_cases h : a = 107
  · by_cases h2 : k = j
    · rw [if_pos ⟨h, h2⟩, if_neg (by omega), if_neg (by omega), if_neg (by omega), if_neg (by omega), if_neg (by omega), if_neg (by omega), if_neg (by omega), if_neg (by omega), if_pos h, if_pos h2]
    · rw [if_neg (fun q => h2 q.2), if_neg (by omega), if_neg (by omega), if_neg (by omega), if_neg (by omega), if_neg (by omega), if_neg (by omega), if_neg (by omega), if_neg (by omega), if_pos h, if_neg (by omega), if_neg (by omega), if_neg (by omega), if_neg (by omega), if_neg (by omega), if_neg (by omega), if_neg (by omega), if_neg (by omega), if_pos h, if_neg h2]
  · rw [if_neg (fun q => h q.1), if_neg h, if_neg h]
theorem hw_st : up2 (HR I p bad cs op sd dn bh co ar st) 108 j x = HR I p bad cs op sd dn bh co ar (uc st j x) := by
  funext a k
  unfold up2 HR uc
  by_cases h : a = 108
  · by_cases h2 : k = j
    · rw [if_pos ⟨h, h2⟩, if_neg (by omega), if_neg (by omega), if_neg (by omega), if_neg (by omega), if_neg (by omega), if_neg (by omega), if_neg (by omega), if_neg (by omega), if_neg (by omega), if_pos h, if_pos h2]
    · rw [if_neg (fun q => h2 q.2), if_neg (by omega), if_neg (by omega), if_neg (by omega), if_neg (by omega), if_neg (by omega), if_neg (by omega), if_neg (by omega), if_neg (by omega), if_neg (by omega), if_pos h, if_neg (by omega), if_neg (by omega), if_neg (by omega), if_neg (by omega), if_neg (by omega), if_neg (by omega), if_neg (by omega), if_neg (by omega), if_neg (by omega), if_pos h, if_neg h2]
  · rw [if_neg (fun q => h q.1), if_neg h, if_neg h]
theorem hw_I {a : Nat} (h1 : ¬ a = 82 ∨ ¬ (j = 45 ∨ j = 47 ∨ (49 ≤ j ∧ j ≤ 53))) (h2 : ¬ a = 106 ∧ ¬ a = 107 ∧ ¬ a = 108) : up2 (HR I p bad cs op sd dn bh co ar st) a j x = HR (up2 I a j x) p bad cs op sd dn bh co ar st := by
  funext b k
  show (if b = a ∧ k = j then x else HR I p bad cs op sd dn bh co ar st b k) = HR (up2 I a j x) p bad cs op sd dn bh co ar st b k
  by_cases h : b = a ∧ k = j
  · obtain ⟨rfl, rfl⟩ := h
    rw [if_pos ⟨rfl, rfl⟩, hr_o h1 h2, up2_eq]
  · have e : up2 I a j x b k = I b k := by
      unfold up2
      exact if_neg h
    rw [if_neg h]
    unfold HR
    rw [e]
end RR0
/-- a byte as the second reader sees it -/
def hrb (c : Int) : Int := if c = -1 then 0 else c
theorem hr_e {c : Int} (h : -1 ≤ c) : (c = -1 ∧ hrb c = 0) ∨ (0 ≤ c ∧ hrb c = c) := by
  unfold hrb
  by_cases e : c = -1
  · rw [if_pos e]
    exact Or.inl ⟨e, rfl⟩
  · rw [if_neg e]
    exact Or.inr ⟨by omega, rfl⟩
/-- the top of the stack -/
def tp (st : Nat → Int) : Nat → Int
  | 0 => 0
  | n + 1 => st n
/-- what the second reader has: n bytes of the tape; text number t is made -/
def RX (I : Nat → Nat → Int) (n t : Nat) : Prop := I 82 46 = (n : Int) ∧ n ≤ 160 ∧ I 82 5 = (t : Int) ∧ t < 30
section RR1
variable {d : Nat} {I : Nat → Nat → Int} {sp rt : Nat} {tt : Nat → Nat} {z : Zs} {n t : Nat} {p cs sd : Nat} {bad op dn bh : Int} {co ar st : Nat → Int}
theorem S_219 (h : RX I n t) : Call PG (d + 1) 219 [(2, 82)] (HR I p bad cs op sd dn bh co ar st, RF sp rt tt z.1, z) = some (some (0, hrb (qc (I 83) n p)), (HR I p bad cs op sd dn bh co ar st, RF sp rt tt z.1, z)) := by
  have hm := h.2.1
  have e1 : HR I p bad cs op sd dn bh co ar st 82 46 = (n : Int) := (hr_o (Or.inr (by decide)) (by decide)).trans h.1
  refine (K_219 ..).trans ?_
  refine (T_219_0 ..).trans ?_
  rw [hr_p, e1]
  unfold qc
  by_cases c : p < n
  · have b := byte_in (I 83 p)
    rw [if_pos c, show ((p : Int)).toNat = p by omega, hr_o (Or.inl (by decide)) (by decide)]
    unfold hrb
    rw [if_neg (by omega)]
    exact ci_t (by omega) (ci_t (by omega) rfl)
  · rw [if_neg c]
    exact ci_f (by omega) rfl
theorem S_220 {f : Int} {i : Nat} (hf : 1 ≤ f ∧ f ≤ 5) (hi : i ≤ 1000) : Call PG (d + 1) 220 [(2, 82), (0, f), (0, (i : Int))] (HR I p bad cs op sd dn bh co ar st, RF sp rt tt z.1, z) = some (none, (HR I p (if bad < 0 then bad else fau f i) cs op sd dn bh co ar st, RF sp rt tt z.1, z)) := by
  refine (K_220 ..).trans ?_
  refine (T_220_0 ..).trans ?_
  have e : w32 (w32 ((-1000) * f) - (i : Int)) = fau f i := by
    rw [w32_of (x := (-1000) * f) (by omega) (by omega), w32_of (by omega) (by omega)]
    rfl
  rw [e, hr_bad, hw_bad, hw_bad]
  by_cases c : bad < 0
  · rw [if_pos c]
    exact ci_t c rfl
  · rw [if_neg c]
    exact ci_f c rfl
theorem S_217 : Call PG (d + 1) 217 [(2, 82)] (HR I p bad cs op sd dn bh co ar st, RF sp rt tt z.1, z) = some (some (0, bz (bad = 0)), (HR I p bad cs op sd dn bh co ar st, RF sp rt tt z.1, z)) := by
  refine (K_217 ..).trans ?_
  refine (T_217_0 ..).trans ?_
  rw [hr_bad]
  by_cases c : bad = 0
  · rw [bz_t c]
    exact ci_t c rfl
  · rw [bz_f c]
    exact ci_f c rfl
theorem S_223 (hs : sd < 200) (hp : p ≤ 1000) {c : Int} : Call PG (d + 1) 223 [(2, 82), (0, c)] (HR I p bad cs op sd dn bh co ar st, RF sp rt tt z.1, z) = some (none, (HR I (p + 1) bad cs op (sd + 1) dn bh co ar (uc st sd c), RF sp rt tt z.1, z)) := by
  refine (K_223 ..).trans ?_
  refine (T_223_0 ..).trans ?_
  rw [hr_sd]
  refine ci_t (by omega) ?_
  rw [show ((sd : Int)).toNat = sd by omega, hw_st, w_n (by omega), hw_sd, hr_p, w_n hp, hw_p]
theorem S_234 (hs : sd ≤ 200) : Call PG (d + 1) 234 [(2, 82)] (HR I p bad cs op sd dn bh co ar st, RF sp rt tt z.1, z) = some (some (0, tp st sd), (HR I p bad cs op sd dn bh co ar st, RF sp rt tt z.1, z)) := by
  refine (K_234 ..).trans ?_
  refine (T_234_0 ..).trans ?_
  rw [hr_sd]
  cases sd with
  | zero => exact ci_t (by decide) rfl
  | succ s =>
    rw [w32_of (by omega) (by omega), show (((s + 1 : Nat) : Int) - 1).toNat = s by omega, hr_st]
    exact ci_f (by omega) (ci_t (by omega) rfl)
theorem S_228 (h : RX I n t) (hb : bad = 0) (hc : cs < 160) {c x : Int} : Call PG (d + 2) 228 [(2, 82), (0, c), (0, x)] (HR I p bad cs op sd dn bh co ar st, RF sp rt tt z.1, z) = some (none, (HR I p bad (cs + 1) op sd dn bh (uc co (160 * t + cs) c) (uc ar (160 * t + cs) x) st, RF sp rt tt z.1, z)) := by
  obtain ⟨h1, h2, h3, h4⟩ := h
  refine (K_228 ..).trans ?_
  refine (T_228_0 ..).trans ?_
  refine bd_t S_217 ?_
  refine (T_228_4 ..).trans ?_
  rw [bz_t hb]
  have e : HR I p bad cs op sd dn bh co ar st 82 5 = (t : Int) := (hr_o (Or.inr (by decide)) (by decide)).trans h3
  rw [e, hr_cs, w32_of (x := 160 * (t : Int)) (by omega) (by omega), w32_of (x := 160 * (t : Int) + cs) (by omega) (by omega), show (160 * (t : Int) + cs).toNat = 160 * t + cs by omega]
  refine ci_f (by decide) (ci_t (by omega) (ci_t (by omega) ?_))
  rw [hw_co, hw_ar, w_n (by omega), hw_cs]
theorem S_228b (hb : ¬ bad = 0) {c x : Int} : Call PG (d + 2) 228 [(2, 82), (0, c), (0, x)] (HR I p bad cs op sd dn bh co ar st, RF sp rt tt z.1, z) = some (none, (HR I p bad cs op sd dn bh co ar st, RF sp rt tt z.1, z)) := by
  refine (K_228 ..).trans ?_
  refine (T_228_0 ..).trans ?_
  refine bd_t S_217 ?_
  refine (T_228_4 ..).trans ?_
  rw [bz_f hb]
  exact ci_t rfl rfl
theorem S_226 (h : RX I n t) : Call PG (d + 2) 226 [(2, 82)] (HR I p bad cs op sd dn bh co ar st, RF sp rt tt z.1, z) = some (some (0, bz (dig (qc (I 83) n p))), (HR I p bad cs op sd dn bh co ar st, RF sp rt tt z.1, z)) := by
  have hq := qc_rng (I 83) n p
  have he := hr_e hq.1
  refine (K_226 ..).trans ?_
  refine (T_226_0 ..).trans ?_
  refine bd_t (S_219 h) ?_
  refine (T_226_4 ..).trans ?_
  refine bd_t S_209 ?_
  refine (T_226_14 ..).trans ?_
  have e : bz (48 ≤ hrb (qc (I 83) n p) ∧ hrb (qc (I 83) n p) ≤ 57) = bz (dig (qc (I 83) n p)) := by
    by_cases c : dig (qc (I 83) n p)
    · rw [bz_t c, bz_t (by omega)]
    · rw [bz_f c, bz_f (by omega)]
  rw [e]
  by_cases c : dig (qc (I 83) n p)
  · rw [bz_t c]
    exact if_pos (Or.inr rfl)
  · rw [bz_f c]
    exact if_pos (Or.inl rfl)
theorem S_231 {c : Int} {J : Nat → Nat → Int} : Call PG (d + 1) 231 [(0, c)] (J, RF sp rt tt z.1, z) = some (some (0, bz (isT c)), (J, RF sp rt tt z.1, z)) := by
  refine (K_231 ..).trans ?_
  refine (T_231_0 ..).trans ?_
  by_cases c1 : isT c
  · rw [bz_t c1]
    by_cases a : c = 42
    · exact ci_t a rfl
    · by_cases b : c = 47
      · exact ci_f a (ci_t b rfl)
      · exact ci_f a (ci_f b (ci_t (by omega) rfl))
  · rw [bz_f c1]
    exact ci_f (by omega) (ci_f (by omega) (ci_f (by omega) rfl))
theorem S_232 {c : Int} {J : Nat → Nat → Int} : Call PG (d + 1) 232 [(0, c)] (J, RF sp rt tt z.1, z) = some (some (0, bz (isP c)), (J, RF sp rt tt z.1, z)) := by
  refine (K_232 ..).trans ?_
  refine (T_232_0 ..).trans ?_
  by_cases c1 : isP c
  · rw [bz_t c1]
    by_cases a : c = 43
    · exact ci_t a rfl
    · exact ci_f a (ci_t (by omega) rfl)
  · rw [bz_f c1]
    exact ci_f (by omega) (ci_f (by omega) rfl)
theorem S_235 {c : Int} {J : Nat → Nat → Int} : Call PG (d + 1) 235 [(0, c)] (J, RF sp rt tt z.1, z) = some (some (0, bz (isS c)), (J, RF sp rt tt z.1, z)) := by
  refine (K_235 ..).trans ?_
  refine (T_235_0 ..).trans ?_
  by_cases c1 : isS c
  · rw [bz_t c1]
    by_cases a : c = 60
    · exact ci_t a rfl
    · by_cases b : c = 62
      · exact ci_f a (ci_t b rfl)
      · exact ci_f a (ci_f b (ci_t (by omega) rfl))
  · rw [bz_f c1]
    exact ci_f (by omega) (ci_f (by omega) (ci_f (by omega) rfl))
theorem lix_y (c : Int) : 0 ≤ lix c ↔ (c = 115 ∨ c = 100 ∨ c = 103 ∨ c = 109 ∨ c = 98 ∨ c = 97 ∨ c = 111 ∨ c = 119 ∨ c = 108 ∨ c = 104 ∨ c = 121 ∨ c = 113) := by
  unfold lix
  simp only [idxOf]
  repeat' split
  all_goals omega
theorem S_229 {c : Int} {J : Nat → Nat → Int} : Call PG (d + 1) 229 [(0, c)] (J, RF sp rt tt z.1, z) = some (some (0, bz (0 ≤ lix c)), (J, RF sp rt tt z.1, z)) := by
  have hy := lix_y c
  refine (K_229 ..).trans ?_
  refine (T_229_0 ..).trans ?_
  by_cases c1 : 0 ≤ lix c
  · rw [bz_t c1]
    have h := hy.1 c1
    rcases h with h | h | h | h | h | h | h | h | h | h | h | h <;> subst h
    all_goals repeat' (first | exact ci_t rfl rfl | refine ci_f (by decide) ?_)
  · rw [bz_f c1]
    have h := fun q => c1 (hy.2 q)
    exact ci_f (by omega) (ci_f (by omega) (ci_f (by omega) (ci_f (by omega) (ci_f (by omega) (ci_f (by omega) (ci_f (by omega) (ci_f (by omega) (ci_f (by omega) (ci_f (by omega) (ci_f (by omega) (ci_f (by omega) rfl)))))))))))
theorem S_222 (h : RX I n t) (hb : bad = 0) (hs : sd < 200) (hp : p ≤ 1000) (ho : 0 ≤ op ∧ op ≤ 6) : Call PG (d + 2) 222 [(2, 82)] (HR I p bad cs op sd dn bh co ar st, RF sp rt tt z.1, z) = some (none, (HR I (p + 1) (if op = 6 then fau 5 p else 0) cs (op + 1) (sd + 1) dn bh co ar (uc st sd (hrb (qc (I 83) n p))), RF sp rt tt z.1, z)) := by
  subst hb
  refine (K_222 ..).trans ?_
  refine (T_222_0 ..).trans ?_
  rw [hr_op, hr_p]
  by_cases c : op = 6
  · rw [if_pos c]
    refine ci_t c (bd_t (S_220 (by decide) hp) ?_)
    rw [if_neg (show ¬ (0 : Int) < 0 by decide)]
    refine (T_222_18 ..).trans ?_
    rw [hr_op, w32_of (by omega) (by omega), hw_op]
    refine bd_t (S_219 h) ?_
    refine (T_222_33 ..).trans ?_
    exact bd_t (S_223 hs hp) (T_222_36 ..)
  · rw [if_neg c]
    refine ci_f c ?_
    refine (T_222_18 ..).trans ?_
    rw [hr_op, w32_of (by omega) (by omega), hw_op]
    refine bd_t (S_219 h) ?_
    refine (T_222_33 ..).trans ?_
    exact bd_t (S_223 hs hp) (T_222_36 ..)
theorem N_227 (h : RX I n t) {u : Int} {p0 : Nat} : ∀ (k p : Nat) (v : Int), (p : Int) + k = p0 + 5 → p0 ≤ p → p ≤ n → 0 ≤ v → (v + 1) * 10 ^ k ≤ 100000 → ∃ (p' : Nat) (v' : Int), Run PG (Call PG (d + 3)) 227 23 [(2, 82), (0, u), (0, (p0 : Int)), (0, v)] [] (HR I p 0 cs op sd dn bh co ar st, RF sp rt tt z.1, z) (0, 0) = (match numL (qc (I 83) n) k p v with
    | .inl e => some (some (0, v'), (HR I p' e cs op sd dn bh co ar st, RF sp rt tt z.1, z))
    | .inr (j, w) => if w ≤ u then some (some (0, w), (HR I j 0 cs op sd dn bh co ar st, RF sp rt tt z.1, z)) else some (some (0, v'), (HR I p' (fau 3 p0) cs op sd dn bh co ar st, RF sp rt tt z.1, z))) := by
  have hq := qc_OQ (I 83) n
  have hm := h.2.1
  intro k
  induction k with
  | zero =>
    intro p v hk hp0 hp h0 hb
    unfold numL
    by_cases c : dig (qc (I 83) n p)
    · have hl : p < n := OQ_lt hq (c := qc (I 83) n p) (by omega) rfl
      have he := hr_e (qc_rng (I 83) n p).1
      have hv : (v + 1) * 1 ≤ 100000 := hb
      rw [if_pos c]
      by_cases cu : v * 10 + qc (I 83) n p - 48 ≤ u
      · refine ⟨p + 1, v * 10 + qc (I 83) n p - 48, ?_⟩
        refine (T_227_23 ..).trans (bd_t S_217 ?_)
        refine (T_227_27 ..).trans ?_
        rw [bz_t rfl]
        refine ci_f (by decide) (bd_t (S_226 h) ?_)
        refine (T_227_34 ..).trans ?_
        rw [bz_t c, hr_p, w32_of (x := (p0 : Int) + 5) (by omega) (by omega)]
        refine ci_f (by decide) (ci_t (by omega) (bd_t (S_220 (by decide) (by omega)) ?_))
        rw [if_neg (show ¬ (0 : Int) < 0 by decide)]
        refine (T_227_56 ..).trans (bd_t (S_219 h) ?_)
        refine (T_227_64 ..).trans ?_
        rw [hr_p, w_n (by omega), hw_p, w32_of (x := 10 * v) (by omega) (by omega), w32_of (x := 10 * v + hrb (qc (I 83) n p)) (by omega) (by omega), w32_of (by omega) (by omega)]
        refine (T_227_23 ..).trans (bd_t S_217 ?_)
        refine (T_227_27 ..).trans ?_
        rw [bz_f (by have := fau_neg (f := 2) (by decide) p; omega)]
        refine ci_t rfl (ci_t (by omega) ?_)
        refine (T_227_93 ..).trans ?_
        rw [show 10 * v + hrb (qc (I 83) n p) - 48 = v * 10 + qc (I 83) n p - 48 by omega]
      · refine ⟨p + 1, v * 10 + qc (I 83) n p - 48, ?_⟩
        refine (T_227_23 ..).trans (bd_t S_217 ?_)
        refine (T_227_27 ..).trans ?_
        rw [bz_t rfl]
        refine ci_f (by decide) (bd_t (S_226 h) ?_)
        refine (T_227_34 ..).trans ?_
        rw [bz_t c, hr_p, w32_of (x := (p0 : Int) + 5) (by omega) (by omega)]
        refine ci_f (by decide) (ci_t (by omega) (bd_t (S_220 (by decide) (by omega)) ?_))
        rw [if_neg (show ¬ (0 : Int) < 0 by decide)]
        refine (T_227_56 ..).trans (bd_t (S_219 h) ?_)
        refine (T_227_64 ..).trans ?_
        rw [hr_p, w_n (by omega), hw_p, w32_of (x := 10 * v) (by omega) (by omega), w32_of (x := 10 * v + hrb (qc (I 83) n p)) (by omega) (by omega), w32_of (by omega) (by omega)]
        refine (T_227_23 ..).trans (bd_t S_217 ?_)
        refine (T_227_27 ..).trans ?_
        rw [bz_f (by have := fau_neg (f := 2) (by decide) p; omega)]
        refine ci_t rfl (ci_f (by omega) (bd_t (S_220 (by decide) (by omega)) ?_))
        rw [if_pos (fau_neg (by decide) p)]
        refine (T_227_93 ..).trans ?_
        rw [show 10 * v + hrb (qc (I 83) n p) - 48 = v * 10 + qc (I 83) n p - 48 by omega]
    · rw [if_neg c]
      refine ⟨p, v, ?_⟩
      refine (T_227_23 ..).trans (bd_t S_217 ?_)
      refine (T_227_27 ..).trans ?_
      rw [bz_t rfl]
      refine ci_f (by decide) (bd_t (S_226 h) ?_)
      refine (T_227_34 ..).trans ?_
      rw [bz_f c]
      refine ci_t rfl ?_
      dsimp only
      by_cases cu : v ≤ u
      · rw [if_pos cu]
        exact ci_t cu (T_227_93 ..)
      · rw [if_neg cu]
        refine ci_f cu (bd_t (S_220 (by decide) (by omega)) ?_)
        rw [if_neg (show ¬ (0 : Int) < 0 by decide)]
        exact T_227_93 ..
  | succ k ih =>
    intro p v hk hp0 hp h0 hb
    unfold numL
    by_cases c : dig (qc (I 83) n p)
    · have hl : p < n := OQ_lt hq (c := qc (I 83) n p) (by omega) rfl
      have he := hr_e (qc_rng (I 83) n p).1
      have hb1 : (v * 10 + qc (I 83) n p - 48 + 1) * 10 ^ k ≤ 100000 := by
        refine Int.le_trans (Int.mul_le_mul_of_nonneg_right (b := (v + 1) * 10) (by omega) (Int.le_of_lt (Int.pow_pos (by decide)))) ?_
        rw [Int.mul_assoc, Int.mul_comm 10, ← Int.pow_succ]
        exact hb
      have hv : v + 1 ≤ 100000 := by
        refine Int.le_trans ?_ hb
        have : (v + 1) * 1 ≤ (v + 1) * 10 ^ (k + 1) := Int.mul_le_mul_of_nonneg_left (Int.pow_pos (by decide)) (by omega)
        omega
      obtain ⟨p', v', e⟩ := ih (p + 1) (v * 10 + qc (I 83) n p - 48) (by omega) (by omega) (by omega) (by omega) hb1
      rw [if_pos c]
      refine ⟨p', v', Eq.trans ?_ e⟩
      refine (T_227_23 ..).trans (bd_t S_217 ?_)
      refine (T_227_27 ..).trans ?_
      rw [bz_t rfl]
      refine ci_f (by decide) (bd_t (S_226 h) ?_)
      refine (T_227_34 ..).trans ?_
      rw [bz_t c, hr_p, w32_of (x := (p0 : Int) + 5) (by omega) (by omega)]
      refine ci_f (by decide) (ci_f (by omega) ?_)
      refine (T_227_56 ..).trans (bd_t (S_219 h) ?_)
      refine (T_227_64 ..).trans ?_
      rw [hr_p, w_n (by omega), hw_p, w32_of (x := 10 * v) (by omega) (by omega), w32_of (x := 10 * v + hrb (qc (I 83) n p)) (by omega) (by omega), w32_of (by omega) (by omega), show 10 * v + hrb (qc (I 83) n p) - 48 = v * 10 + qc (I 83) n p - 48 by omega]
    · rw [if_neg c]
      refine ⟨p, v, ?_⟩
      refine (T_227_23 ..).trans (bd_t S_217 ?_)
      refine (T_227_27 ..).trans ?_
      rw [bz_t rfl]
      refine ci_f (by decide) (bd_t (S_226 h) ?_)
      refine (T_227_34 ..).trans ?_
      rw [bz_f c]
      refine ci_t rfl ?_
      dsimp only
      by_cases cu : v ≤ u
      · rw [if_pos cu]
        exact ci_t cu (T_227_93 ..)
      · rw [if_neg cu]
        refine ci_f cu (bd_t (S_220 (by decide) (by omega)) ?_)
        rw [if_neg (show ¬ (0 : Int) < 0 by decide)]
        exact T_227_93 ..
theorem S_227 (h : RX I n t) (hb : bad = 0) (hp : p ≤ n) {u : Int} (hu : 0 ≤ u) : ∃ (p' : Nat) (v' : Int), Call PG (d + 4) 227 [(2, 82), (0, u)] (HR I p bad cs op sd dn bh co ar st, RF sp rt tt z.1, z) = (match NUMU (qc (I 83) n) u p with
    | .inl e => some (some (0, v'), (HR I p' e cs op sd dn bh co ar st, RF sp rt tt z.1, z))
    | .inr (j, w) => some (some (0, w), (HR I j 0 cs op sd dn bh co ar st, RF sp rt tt z.1, z))) := by
  subst hb
  have hm := h.2.1
  have k0 : Call PG (d + 4) 227 [(2, 82), (0, u)] (HR I p 0 cs op sd dn bh co ar st, RF sp rt tt z.1, z) = Run PG (Call PG (d + 3)) 227 11 [(2, 82), (0, u), (0, (p : Int)), (0, 0)] [(0, bz (dig (qc (I 83) n p)))] (HR I p 0 cs op sd dn bh co ar st, RF sp rt tt z.1, z) (0, 0) := by
    refine (K_227 ..).trans ?_
    refine (T_227_0 ..).trans ?_
    rw [hr_p]
    exact bd_t (S_226 h) rfl
  unfold NUMU NUM
  by_cases c : dig (qc (I 83) n p)
  · rw [if_pos c]
    obtain ⟨p', v', e⟩ := N_227 (d := d) (cs := cs) (op := op) (sd := sd) (dn := dn) (bh := bh) (co := co) (ar := ar) (st := st) h (u := u) (p0 := p) 5 p 0 (by omega) (Nat.le_refl _) hp (by decide) (by decide)
    refine ⟨p', v', k0.trans ?_⟩
    refine (T_227_11 ..).trans ?_
    rw [bz_t c, hr_p]
    refine ci_f (by decide) (e.trans ?_)
    cases numL (qc (I 83) n) 5 p 0 with
    | inl e0 => rfl
    | inr w =>
      obtain ⟨j, v⟩ := w
      dsimp only
      by_cases cu : v ≤ u
      · rw [if_pos cu, if_pos cu]
      · rw [if_neg cu, if_neg cu]
  · rw [if_neg c]
    refine ⟨p, 0, k0.trans ?_⟩
    refine (T_227_11 ..).trans ?_
    rw [bz_f c, hr_p]
    refine ci_t rfl (bd_t (S_220 (by decide) (by omega)) ?_)
    rw [if_neg (show ¬ (0 : Int) < 0 by decide)]
    refine (T_227_23 ..).trans (bd_t S_217 ?_)
    refine (T_227_27 ..).trans ?_
    rw [bz_f (by have := fau_neg (f := 1) (by decide) p; omega)]
    refine ci_t rfl (ci_t hu ?_)
    exact T_227_93 ..
end RR1

