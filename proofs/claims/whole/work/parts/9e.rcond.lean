/-! texts: the second reader's pieces, parts, conditions -/
/-- behind a piece: its ! end -/
def EN (b : Nat) (st : Nat → Int) : Nat → Nat → Int → (Nat → Int) → (Nat → Int) → Nat × Nat × Int × (Nat → Int) × (Nat → Int)
  | 0, cs, op, co, ar => (0, cs, op, co, ar)
  | s + 1, cs, op, co, ar => if st s = 33 then EN b st s (cs + 1) (op - 1) (uc co (b + cs) 2) (uc ar (b + cs) 0) else (s + 1, cs, op, co, ar)
def HE (I : Nat → Nat → Int) (p : Nat) (bh : Int) (st : Nat → Int) (x : Nat × Nat × Int × (Nat → Int) × (Nat → Int)) : Nat → Nat → Int := HR I p 0 x.2.1 x.2.2.1 x.1 0 bh x.2.2.2.1 x.2.2.2.2 st
theorem EN_id {b : Nat} {st : Nat → Int} {sd cs : Nat} {op : Int} {co ar : Nat → Int} (h : ¬ tp st sd = 33) : EN b st sd cs op co ar = (sd, cs, op, co, ar) := by
  cases sd with
  | zero => rfl
  | succ s => exact if_neg h
section RE0
variable {d : Nat} {I : Nat → Nat → Int} {sp rt : Nat} {tt : Nat → Nat} {z : Zs} {n t k : Nat} {p cs sd : Nat} {op bh : Int} {co ar st : Nat → Int}
theorem S_236 (h : RX I n t) : ∀ (sd cs : Nat) (op : Int) (co ar : Nat → Int), cs + sd ≤ 160 → -1000 + (sd : Int) ≤ op → op ≤ 1000 → Call PG (d + 3) 236 [(2, 82)] (HR I p 0 cs op sd 0 bh co ar st, RF sp rt tt z.1, z) = some (none, (HE I p bh st (EN (160 * t) st sd cs op co ar), RF sp rt tt z.1, z)) := by
  intro sd
  induction sd with
  | zero =>
    intro cs op co ar h1 h2 h3
    refine (K_236 ..).trans ?_
    refine (T_236_0 ..).trans (bd_t (S_234 (by decide)) ?_)
    exact (T_236_4 ..).trans (ci_f (show ¬ (0 : Int) = 33 by decide) rfl)
  | succ s ih =>
    intro cs op co ar h1 h2 h3
    refine (K_236 ..).trans ?_
    refine (T_236_0 ..).trans (bd_t (S_234 (by omega)) ?_)
    refine (T_236_4 ..).trans ?_
    show ci (st s = 33) _ _ = _
    by_cases c : st s = 33
    · refine ci_t c (bd_t (S_228 h rfl (by omega)) ?_)
      refine (T_236_15 ..).trans ?_
      rw [hr_sd, w32_of (x := ((s + 1 : Nat) : Int) - 1) (by omega) (by omega), show ((s + 1 : Nat) : Int) - 1 = (s : Int) by omega, hw_sd, hr_op, w32_of (by omega) (by omega), hw_op]
      have e : EN (160 * t) st (s + 1) cs op co ar = EN (160 * t) st s (cs + 1) (op - 1) (uc co (160 * t + cs) 2) (uc ar (160 * t + cs) 0) := if_pos c
      rw [e]
      exact (K_236 ..).symm.trans (ih (cs + 1) (op - 1) _ _ (by omega) (by omega) (by omega))
    · rw [EN_id (show ¬ tp st (s + 1) = 33 from c)]
      exact ci_f c rfl
theorem JU_step (h : RX I n t) (hc : cs < 160) (hs : sd + 1 ≤ 200) {pl : Int} (hp : st sd = 38 ∨ (¬ pl = 0 ∧ st sd = 124)) : Call PG (d + 3) 238 [(2, 82), (0, pl)] (HR I p 0 cs op (sd + 1) 0 bh co ar st, RF sp rt tt z.1, z) = Call PG (d + 3) 238 [(2, 82), (0, pl)] (HR I p 0 (cs + 1) op sd 0 bh (uc co (160 * t + cs) (st sd)) (uc ar (160 * t + cs) 0) st, RF sp rt tt z.1, z) := by
  have k : Run PG (Call PG (d + 2)) 238 27 [(2, 82), (0, pl)] [(0, st sd), (2, 82)] (HR I p 0 cs op (sd + 1) 0 bh co ar st, RF sp rt tt z.1, z) (0, 0) = Call PG (d + 3) 238 [(2, 82), (0, pl)] (HR I p 0 (cs + 1) op sd 0 bh (uc co (160 * t + cs) (st sd)) (uc ar (160 * t + cs) 0) st, RF sp rt tt z.1, z) := by
    refine (T_238_27 ..).trans (bd_t (S_228 h rfl hc) ?_)
    refine (T_238_31 ..).trans ?_
    rw [hr_sd, w32_of (by omega) (by omega), show ((sd + 1 : Nat) : Int) - 1 = (sd : Int) by omega, hw_sd]
    exact (K_238 ..).symm
  refine (K_238 ..).trans ?_
  refine (T_238_0 ..).trans (bd_t (S_234 hs) ?_)
  refine (T_238_4 ..).trans ?_
  show ci (st sd = 38) _ _ = _
  by_cases c : st sd = 38
  · exact ci_t c (bd_t (S_234 hs) k)
  · have c2 := hp.resolve_left c
    refine ci_f c (ci_f c2.1 (bd_t (S_234 hs) ?_))
    refine (T_238_17 ..).trans ?_
    show ci (st sd = 124) _ _ = _
    exact ci_t c2.2 (bd_t (S_234 hs) k)
theorem JU_stop (hs : sd ≤ 200) {pl : Int} (h1 : ¬ tp st sd = 38) (h2 : pl = 0 ∨ ¬ tp st sd = 124) : Call PG (d + 3) 238 [(2, 82), (0, pl)] (HR I p 0 cs op sd 0 bh co ar st, RF sp rt tt z.1, z) = some (none, (HR I p 0 cs op sd 0 bh co ar st, RF sp rt tt z.1, z)) := by
  refine (K_238 ..).trans ?_
  refine (T_238_0 ..).trans (bd_t (S_234 hs) ?_)
  refine (T_238_4 ..).trans (ci_f h1 ?_)
  by_cases c : pl = 0
  · exact ci_t c rfl
  · refine ci_f c (bd_t (S_234 hs) ?_)
    exact (T_238_17 ..).trans (ci_f (h2.resolve_left c) rfl)
/-! goesBehind -/
theorem GB_38 (h : RX I n t) (c : qc (I 83) n p = 38) : Call PG (d + 7) 237 [(2, 82)] (HR I p 0 cs op sd 0 bh co ar st, RF sp rt tt z.1, z) = bd (Call PG (d + 6) 238 [(2, 82), (0, 0)] (HR I p 0 cs op sd 0 bh co ar st, RF sp rt tt z.1, z)) (fun v h => Run PG (Call PG (d + 6)) 237 32 [(2, 82), (0, 38)] (v.toList ++ []) h (0, 0)) := by
  refine (K_237 ..).trans ?_
  refine (T_237_0 ..).trans (bd_t (S_219 h) ?_)
  rw [c]
  exact (T_237_4 ..).trans (ci_t rfl (ci_f (by decide) rfl))
theorem GB_124 (h : RX I n t) (c : qc (I 83) n p = 124) : Call PG (d + 7) 237 [(2, 82)] (HR I p 0 cs op sd 0 bh co ar st, RF sp rt tt z.1, z) = bd (Call PG (d + 6) 238 [(2, 82), (0, 1)] (HR I p 0 cs op sd 0 bh co ar st, RF sp rt tt z.1, z)) (fun v h => Run PG (Call PG (d + 6)) 237 32 [(2, 82), (0, 124)] (v.toList ++ []) h (0, 0)) := by
  refine (K_237 ..).trans ?_
  refine (T_237_0 ..).trans (bd_t (S_219 h) ?_)
  rw [c]
  exact (T_237_4 ..).trans (ci_f (by decide) (ci_t rfl (ci_t rfl rfl)))
theorem GB_41 (h : RX I n t) (c : qc (I 83) n p = 41) : Call PG (d + 7) 237 [(2, 82)] (HR I p 0 cs op sd 0 bh co ar st, RF sp rt tt z.1, z) = bd (Call PG (d + 6) 238 [(2, 82), (0, 1)] (HR I p 0 cs op sd 0 bh co ar st, RF sp rt tt z.1, z)) (fun v h => Run PG (Call PG (d + 6)) 237 61 [(2, 82), (0, 41)] (v.toList ++ []) h (0, 0)) := by
  refine (K_237 ..).trans ?_
  refine (T_237_0 ..).trans (bd_t (S_219 h) ?_)
  rw [c]
  exact (T_237_4 ..).trans (ci_f (by decide) (ci_f (by decide) (ci_t rfl rfl)))
theorem GB_bad (h : RX I n t) (hp : p ≤ 1000) (c : ¬ (qc (I 83) n p = 38 ∨ qc (I 83) n p = 124 ∨ qc (I 83) n p = 41)) : Call PG (d + 7) 237 [(2, 82)] (HR I p 0 cs op sd 0 bh co ar st, RF sp rt tt z.1, z) = some (some (0, 0), (HR I p (fau 1 p) cs op sd 0 bh co ar st, RF sp rt tt z.1, z)) := by
  have he := hr_e (qc_rng (I 83) n p).1
  refine (K_237 ..).trans ?_
  refine (T_237_0 ..).trans (bd_t (S_219 h) ?_)
  refine (T_237_4 ..).trans ?_
  rw [hr_p]
  refine ci_f (by omega) (ci_f (by omega) (ci_f (by omega) (bd_t (S_220 (by decide) hp) ?_)))
  exact T_237_54 ..
theorem GB_red (h : RX I n t) (hc : cs < 160) (hs : sd + 1 ≤ 200) (c : (st sd = 38 ∧ (qc (I 83) n p = 38 ∨ qc (I 83) n p = 124 ∨ qc (I 83) n p = 41)) ∨ (st sd = 124 ∧ (qc (I 83) n p = 124 ∨ qc (I 83) n p = 41))) : Call PG (d + 7) 237 [(2, 82)] (HR I p 0 cs op (sd + 1) 0 bh co ar st, RF sp rt tt z.1, z) = Call PG (d + 7) 237 [(2, 82)] (HR I p 0 (cs + 1) op sd 0 bh (uc co (160 * t + cs) (st sd)) (uc ar (160 * t + cs) 0) st, RF sp rt tt z.1, z) := by
  by_cases c1 : qc (I 83) n p = 38
  · rw [GB_38 h c1, GB_38 h c1, JU_step (d := d + 3) h hc hs (by rcases c with c | c; exact Or.inl c.1; omega)]
  · by_cases c2 : qc (I 83) n p = 124
    · rw [GB_124 h c2, GB_124 h c2, JU_step (d := d + 3) h hc hs (by rcases c with c | c; exact Or.inl c.1; exact Or.inr ⟨by decide, c.1⟩)]
    · have c3 : qc (I 83) n p = 41 := by omega
      rw [GB_41 h c3, GB_41 h c3, JU_step (d := d + 3) h hc hs (by rcases c with c | c; exact Or.inl c.1; exact Or.inr ⟨by decide, c.1⟩)]
/-! the loop of a condition: before a piece (57, more), behind its ends (79) -/
theorem E79 {m : Int} : Run PG (Call PG (d + 7)) 221 79 [(2, 82), (0, (k : Int)), (0, m)] [] (HR I p 0 cs op sd 0 bh co ar st, RF sp rt tt z.1, z) (0, 0) = bd (Call PG (d + 7) 237 [(2, 82)] (HR I p 0 cs op sd 0 bh co ar st, RF sp rt tt z.1, z)) (fun v h => Run PG (Call PG (d + 7)) 221 90 [(2, 82), (0, (k : Int)), (0, m)] (v.toList ++ []) h (0, 0)) := by
  refine (T_221_79 ..).trans (bd_t S_217 ?_)
  refine (T_221_83 ..).trans ?_
  rw [bz_t rfl]
  exact ci_f (by decide) rfl
theorem P57 : Run PG (Call PG (d + 7)) 221 57 [(2, 82), (0, (k : Int)), (0, 1)] [] (HR I p 0 cs op sd 0 bh co ar st, RF sp rt tt z.1, z) (0, 0) = bd (Call PG (d + 7) 224 [(2, 82)] (HR I p 0 cs op sd 0 bh co ar st, RF sp rt tt z.1, z)) (fun v h => Run PG (Call PG (d + 7)) 221 79 [(2, 82), (0, (k : Int)), (0, 1)] (v.toList ++ []) h (0, 0)) := by
  refine (T_221_57 ..).trans (bd_t S_217 ?_)
  refine (T_221_61 ..).trans ?_
  rw [bz_t rfl, hr_dn]
  exact ci_f (by decide) (ci_t rfl (ci_f (by decide) rfl))
theorem P57z : Run PG (Call PG (d + 7)) 221 57 [(2, 82), (0, (k : Int)), (0, 0)] [] (HR I p 0 cs op sd 0 bh co ar st, RF sp rt tt z.1, z) (0, 0) = Run PG (Call PG (d + 7)) 221 79 [(2, 82), (0, (k : Int)), (0, 0)] [] (HR I p 0 cs op sd 0 bh co ar st, RF sp rt tt z.1, z) (0, 0) := by
  refine (T_221_57 ..).trans (bd_t S_217 ?_)
  refine (T_221_61 ..).trans ?_
  rw [bz_t rfl, hr_dn]
  exact ci_f (by decide) (ci_t rfl (ci_t rfl rfl))
end RE0
/-- the condition ends with fault e -/
def CFl (I : Nat → Nat → Int) (sp rt : Nat) (tt : Nat → Nat) (z : Zs) (t k : Nat) (co0 ar0 : Nat → Int) (e : Int) (res : Option Res) : Prop := ∃ (p cs sd : Nat) (op bh : Int) (co ar st : Nat → Int), res = some (none, (HR (up2 I 103 k (p : Int)) p e cs op sd 0 bh co ar st, RF sp rt tt z.1, z)) ∧ ∀ x, x < 160 * t → co x = co0 x ∧ ar x = ar0 x
theorem CFl_m {I : Nat → Nat → Int} {sp rt : Nat} {tt : Nat → Nat} {z : Zs} {t k : Nat} {co ar co1 ar1 : Nat → Int} {e : Int} {res : Option Res} (h : CFl I sp rt tt z t k co1 ar1 e res) (a : ∀ x, x < 160 * t → co1 x = co x ∧ ar1 x = ar x) : CFl I sp rt tt z t k co ar e res := by
  obtain ⟨p, cs, sd, op, bh, co', ar', st, h1, h2⟩ := h
  exact ⟨p, cs, sd, op, bh, co', ar', st, h1, fun x hx => ⟨(h2 x hx).1.trans (a x hx).1, (h2 x hx).2.trans (a x hx).2⟩⟩
theorem EN_co {t : Nat} {st : Nat → Int} : ∀ (sd cs : Nat) (op : Int) (co ar : Nat → Int) (x : Nat), x < 160 * t → (EN (160 * t) st sd cs op co ar).2.2.2.1 x = co x ∧ (EN (160 * t) st sd cs op co ar).2.2.2.2 x = ar x
  | 0, _, _, _, _, _, _ => ⟨rfl, rfl⟩
  | s + 1, cs, op, co, ar, x, hx => by
    unfold EN
    split
    · have ih := EN_co (t := t) (st := st) s (cs + 1) (op - 1) (uc co (160 * t + cs) 2) (uc ar (160 * t + cs) 0) x hx
      rw [uc_o (by omega), uc_o (by omega)] at ih
      exact ih
    · exact ⟨rfl, rfl⟩
/-- from before a piece: what sub says is read, up to a sign of A -/
def RC (I : Nat → Nat → Int) (sp rt : Nat) (tt : Nat → Nat) (z : Zs) (n t k d : Nat) (op : Int) (B A : Int → Prop) (sub : Nat → PR) : Prop :=
  ∀ (p cs sd : Nat) (bh : Int) (co ar st : Nat → Int), 1 ≤ sd → cs + sd ≤ p → p ≤ n → B (tp st sd) → match sub p with
    | .inl e => CFl I sp rt tt z t k co ar e (Run PG (Call PG (d + 7)) 221 57 [(2, 82), (0, (k : Int)), (0, 1)] [] (HR I p 0 cs op sd 0 bh co ar st, RF sp rt tt z.1, z) (0, 0))
    | .inr (j, f) => (¬ A (qc (I 83) n j) → CFl I sp rt tt z t k co ar (fau 1 j) (Run PG (Call PG (d + 7)) 221 57 [(2, 82), (0, (k : Int)), (0, 1)] [] (HR I p 0 cs op sd 0 bh co ar st, RF sp rt tt z.1, z) (0, 0))) ∧ (A (qc (I 83) n j) → ∃ (cs' : Nat) (bh' m' : Int) (co' ar' st' : Nat → Int), Run PG (Call PG (d + 7)) 221 57 [(2, 82), (0, (k : Int)), (0, 1)] [] (HR I p 0 cs op sd 0 bh co ar st, RF sp rt tt z.1, z) (0, 0) = Run PG (Call PG (d + 7)) 221 79 [(2, 82), (0, (k : Int)), (0, m')] [] (HE I j bh' st' (EN (160 * t) st' sd cs' op co' ar'), RF sp rt tt z.1, z) (0, 0) ∧ RK n t p cs sd co ar st j cs' co' ar' st' f)
abbrev isB (c : Int) : Prop := c = 40 ∨ c = 33 ∨ c = 38 ∨ c = 124
abbrev A1 (c : Int) : Prop := c = 38 ∨ c = 124 ∨ c = 41
abbrev A2 (c : Int) : Prop := c = 124 ∨ c = 41
section RE1
variable {d : Nat} {I : Nat → Nat → Int} {sp rt : Nat} {tt : Nat → Nat} {z : Zs} {n t k : Nat} {p cs sd : Nat} {op bh : Int} {co ar st : Nat → Int}
theorem P57x (hk : k < 360) {e m : Int} (he : e < 0) : CFl I sp rt tt z t k co ar e (Run PG (Call PG (d + 7)) 221 57 [(2, 82), (0, (k : Int)), (0, m)] [] (HR I p e cs op sd 0 bh co ar st, RF sp rt tt z.1, z) (0, 0)) := by
  refine q_tr (T_221_57 ..) (q_bd S_217 (q_tr (T_221_61 ..) ?_))
  rw [bz_f (by omega)]
  refine q_ct rfl (q_ct (by omega) ?_)
  rw [hr_p, show ((k : Int)).toNat = k by omega, hw_I (Or.inl (by decide)) (by decide)]
  exact ⟨_, _, _, _, _, _, _, _, rfl, fun _ _ => ⟨rfl, rfl⟩⟩
theorem P79x (hk : k < 360) {e m : Int} (he : e < 0) : CFl I sp rt tt z t k co ar e (Run PG (Call PG (d + 7)) 221 79 [(2, 82), (0, (k : Int)), (0, m)] [] (HR I p e cs op sd 0 bh co ar st, RF sp rt tt z.1, z) (0, 0)) := by
  refine q_tr (T_221_79 ..) (q_bd S_217 (q_tr (T_221_83 ..) ?_))
  rw [bz_f (by omega)]
  exact q_ct rfl (P57x hk he)
theorem CC_f (hk : k < 360) {e : Int} (he : e < 0) (h : PFl I sp rt tt z t co ar e (Call PG (d + 7) 224 [(2, 82)] (HR I p 0 cs op sd 0 bh co ar st, RF sp rt tt z.1, z))) : CFl I sp rt tt z t k co ar e (Run PG (Call PG (d + 7)) 221 57 [(2, 82), (0, (k : Int)), (0, 1)] [] (HR I p 0 cs op sd 0 bh co ar st, RF sp rt tt z.1, z) (0, 0)) := by
  obtain ⟨p', cs', sd', op', bh', co', ar', st', e1, ag⟩ := h
  exact q_tr P57 (q_bd e1 (CFl_m (P79x hk he) ag))
theorem EE_bad {m : Int} (h : RX I n t) (hk : k < 360) (hp : p ≤ 1000) (c : ¬ A1 (qc (I 83) n p)) : CFl I sp rt tt z t k co ar (fau 1 p) (Run PG (Call PG (d + 7)) 221 79 [(2, 82), (0, (k : Int)), (0, m)] [] (HE I p bh st (EN (160 * t) st sd cs op co ar), RF sp rt tt z.1, z) (0, 0)) := by
  have hn1 := fau_neg (f := 1) (by decide) p
  exact q_tr E79 (q_bd (GB_bad h hp c) (q_tr (T_221_90 ..) (CFl_m (P57x hk hn1) (fun x hx => EN_co _ _ _ _ _ x hx))))
theorem EE_amp {m : Int} (h : RX I n t) (hs : sd < 200) (hp : p ≤ 1000) (c : qc (I 83) n p = 38) (c2 : tp st sd = 40 ∨ tp st sd = 124) : Run PG (Call PG (d + 7)) 221 79 [(2, 82), (0, (k : Int)), (0, m)] [] (HE I p bh st (EN (160 * t) st sd cs op co ar), RF sp rt tt z.1, z) (0, 0) = Run PG (Call PG (d + 7)) 221 57 [(2, 82), (0, (k : Int)), (0, 1)] [] (HR I (p + 1) 0 cs op (sd + 1) 0 bh co ar (uc st sd 38), RF sp rt tt z.1, z) (0, 0) := by
  rw [EN_id (by omega)]
  refine E79.trans (bd_t (v := some (0, 1)) (h := (HR I (p + 1) 0 cs op (sd + 1) 0 bh co ar (uc st sd 38), RF sp rt tt z.1, z)) ?_ (T_221_90 ..))
  refine (GB_38 h c).trans (bd_t (JU_stop (d := d + 3) (sd := sd) (st := st) (by omega) (by omega) (Or.inl rfl)) ?_)
  refine (T_237_32 ..).trans (bd_t (S_223 hs hp) ?_)
  exact T_237_37 ..
theorem EE_or {m : Int} (h : RX I n t) (hs : sd < 200) (hp : p ≤ 1000) (c : qc (I 83) n p = 124) (c2 : tp st sd = 40) : Run PG (Call PG (d + 7)) 221 79 [(2, 82), (0, (k : Int)), (0, m)] [] (HE I p bh st (EN (160 * t) st sd cs op co ar), RF sp rt tt z.1, z) (0, 0) = Run PG (Call PG (d + 7)) 221 57 [(2, 82), (0, (k : Int)), (0, 1)] [] (HR I (p + 1) 0 cs op (sd + 1) 0 bh co ar (uc st sd 124), RF sp rt tt z.1, z) (0, 0) := by
  rw [EN_id (by omega)]
  refine E79.trans (bd_t (v := some (0, 1)) (h := (HR I (p + 1) 0 cs op (sd + 1) 0 bh co ar (uc st sd 124), RF sp rt tt z.1, z)) ?_ (T_221_90 ..))
  refine (GB_124 h c).trans (bd_t (JU_stop (d := d + 3) (sd := sd) (st := st) (by omega) (by omega) (Or.inr (by omega))) ?_)
  refine (T_237_32 ..).trans (bd_t (S_223 hs hp) ?_)
  exact T_237_37 ..
theorem EE_red {m : Int} (h : RX I n t) (hc : cs < 160) (hs : sd + 1 ≤ 200) (c0 : ¬ tp st sd = 33) (c : (st sd = 38 ∧ A1 (qc (I 83) n p)) ∨ (st sd = 124 ∧ A2 (qc (I 83) n p))) : Run PG (Call PG (d + 7)) 221 79 [(2, 82), (0, (k : Int)), (0, m)] [] (HE I p bh st (EN (160 * t) st (sd + 1) cs op co ar), RF sp rt tt z.1, z) (0, 0) = Run PG (Call PG (d + 7)) 221 79 [(2, 82), (0, (k : Int)), (0, m)] [] (HE I p bh st (EN (160 * t) st sd (cs + 1) op (uc co (160 * t + cs) (st sd)) (uc ar (160 * t + cs) 0)), RF sp rt tt z.1, z) (0, 0) := by
  rw [EN_id (by show ¬ st sd = 33; omega), EN_id c0]
  refine E79.trans (Eq.trans ?_ E79.symm)
  rw [GB_red h hc hs c]
theorem O224 (h : RX I n t) (hs : sd < 200) (hp : p ≤ 1000) (ho : 0 ≤ op ∧ op ≤ 6) (c : qc (I 83) n p = 33 ∨ qc (I 83) n p = 40) {bad : Int} (hb : bad = if op = 6 then fau 5 p else 0) : Call PG (d + 7) 224 [(2, 82)] (HR I p 0 cs op sd 0 bh co ar st, RF sp rt tt z.1, z) = Call PG (d + 7) 224 [(2, 82)] (HR I (p + 1) bad cs (op + 1) (sd + 1) 0 bh co ar (uc st sd (qc (I 83) n p)), RF sp rt tt z.1, z) := by
  have he := hr_e (qc_rng (I 83) n p).1
  have e : hrb (qc (I 83) n p) = qc (I 83) n p := by omega
  have k : bd (Call PG (d + 6) 222 [(2, 82)] (HR I p 0 cs op sd 0 bh co ar st, RF sp rt tt z.1, z)) (fun v h => Run PG (Call PG (d + 6)) 224 29 [(2, 82), (9, 0)] (v.toList ++ []) h (0, 0)) = Call PG (d + 7) 224 [(2, 82)] (HR I (p + 1) bad cs (op + 1) (sd + 1) 0 bh co ar (uc st sd (qc (I 83) n p)), RF sp rt tt z.1, z) := by
    refine bd_t (S_222 h rfl hs hp ho) ?_
    rw [← hb, e]
    exact (T_224_29 ..).trans (K_224 ..).symm
  refine (K_224 ..).trans ?_
  refine (T_224_0 ..).trans (bd_t S_217 ?_)
  refine (T_224_4 ..).trans ?_
  rw [bz_t rfl]
  refine ci_f (by decide) (bd_t (S_219 h) ?_)
  refine (T_224_11 ..).trans ?_
  rw [e]
  by_cases c1 : qc (I 83) n p = 33
  · exact ci_t c1 k
  · refine ci_f c1 (bd_t (S_219 h) ?_)
    refine (T_224_20 ..).trans ?_
    rw [e]
    exact ci_t (c.resolve_left c1) k
theorem N224 (h : RX I n t) (c : ¬ (qc (I 83) n p = 33 ∨ qc (I 83) n p = 40)) : Call PG (d + 7) 224 [(2, 82)] (HR I p 0 cs op sd 0 bh co ar st, RF sp rt tt z.1, z) = Run PG (Call PG (d + 6)) 224 39 [(2, 82), (0, 1)] [] (HR I p 0 cs op sd 0 0 co ar st, RF sp rt tt z.1, z) (0, 0) := by
  have he := hr_e (qc_rng (I 83) n p).1
  refine (K_224 ..).trans ?_
  refine (T_224_0 ..).trans (bd_t S_217 ?_)
  refine (T_224_4 ..).trans ?_
  rw [bz_t rfl]
  refine ci_f (by decide) (bd_t (S_219 h) ?_)
  refine (T_224_11 ..).trans (ci_f (by omega) (bd_t (S_219 h) ?_))
  refine (T_224_20 ..).trans (ci_f (by omega) ?_)
  rw [hw_bh]
theorem X224 {e : Int} (he : e < 0) : PFl I sp rt tt z t co ar e (Call PG (d + 7) 224 [(2, 82)] (HR I p e cs op sd 0 bh co ar st, RF sp rt tt z.1, z)) := by
  refine q_tr (K_224 ..) (q_tr (T_224_0 ..) (q_bd S_217 (q_tr (T_224_4 ..) ?_)))
  rw [bz_f (by omega)]
  refine q_ct rfl ?_
  rw [hw_bh]
  exact q_tr (P39x (d := d + 5) he) ⟨_, _, _, _, _, _, _, _, rfl, fun _ _ => ⟨rfl, rfl⟩⟩
theorem R_CMP (h : RX I n t) (hk : k < 360) {l : Nat} (ho : op = 6 - (l : Int) ∧ l ≤ 5) (hsd : 1 ≤ sd) (hcs : cs + sd ≤ p) (hp : p ≤ n) (hB : isB (tp st sd)) (c : ¬ (qc (I 83) n p = 33 ∨ qc (I 83) n p = 40)) : match CMP (qc (I 83) n) (SUM (qc (I 83) n) l) p with
    | .inl e => CFl I sp rt tt z t k co ar e (Run PG (Call PG (d + 7)) 221 57 [(2, 82), (0, (k : Int)), (0, 1)] [] (HR I p 0 cs op sd 0 bh co ar st, RF sp rt tt z.1, z) (0, 0))
    | .inr (j, f) => (¬ A1 (qc (I 83) n j) → CFl I sp rt tt z t k co ar (fau 1 j) (Run PG (Call PG (d + 7)) 221 57 [(2, 82), (0, (k : Int)), (0, 1)] [] (HR I p 0 cs op sd 0 bh co ar st, RF sp rt tt z.1, z) (0, 0))) ∧ (A1 (qc (I 83) n j) → ∃ (cs' : Nat) (bh' m' : Int) (co' ar' st' : Nat → Int), Run PG (Call PG (d + 7)) 221 57 [(2, 82), (0, (k : Int)), (0, 1)] [] (HR I p 0 cs op sd 0 bh co ar st, RF sp rt tt z.1, z) (0, 0) = Run PG (Call PG (d + 7)) 221 79 [(2, 82), (0, (k : Int)), (0, m')] [] (HE I j bh' st' (EN (160 * t) st' sd cs' op co' ar'), RF sp rt tt z.1, z) (0, 0) ∧ RK n t p cs sd co ar st j cs' co' ar' st' f) := by
  have hq := qc_OQ (I 83) n
  have hm := h.2.1
  have hN := N224 (d := d) (p := p) (cs := cs) (sd := sd) (op := op) (bh := bh) (co := co) (ar := ar) (st := st) (sp := sp) (rt := rt) (tt := tt) (z := z) h c
  have hs := R_SUM (sp := sp) (rt := rt) (tt := tt) (z := z) h (d := d) l op ho
  have hs1 := hs p cs sd co ar st hcs hp ⟨by omega, by omega⟩
  have hsn := (SUM_ok hq l p).1
  unfold CMP
  cases hsub : SUM (qc (I 83) n) l p with
  | inl e0 =>
    rw [hsub] at hs1
    refine CC_f hk (hsn _ hsub) ?_
    rw [hN]
    exact hs1
  | inr w =>
    obtain ⟨j, f⟩ := w
    rw [hsub] at hs1
    obtain ⟨hv1, cs1, bh1, co1, ar1, st1, e1, ⟨r1, r2, r3, r4⟩⟩ := hs1
    have hts := tp_s r2
    have he := hr_e (qc_rng (I 83) n j).1
    have hn1 := fau_neg (f := 1) (by decide) j
    have g1 := GO_else (d := d + 2) (p := j) (cs := cs1) (sd := sd) (op := op) (bh := 0) (co := co1) (ar := ar1) (st := st1) (sp := sp) (rt := rt) (tt := tt) (z := z) h (by omega) hv1.1 hv1.2 (by omega) (by omega)
    dsimp only
    by_cases c1 : isS (qc (I 83) n j)
    · have hl := OQ_lt hq (c := qc (I 83) n j) (by omega) rfl
      rw [if_pos c1]
      have e2 : Call PG (d + 7) 224 [(2, 82)] (HR I p 0 cs op sd 0 bh co ar st, RF sp rt tt z.1, z) = Run PG (Call PG (d + 6)) 224 39 [(2, 82), (0, 1)] [] (HR I (j + 1) 0 cs1 op (sd + 1) 0 0 co1 ar1 (uc st1 sd (qc (I 83) n j)), RF sp rt tt z.1, z) (0, 0) := by
        rw [hN, e1]
        rw [show hrb (qc (I 83) n j) = qc (I 83) n j by omega] at g1
        exact P61.trans (bd_t (g1.trans (GO_sg c1 (by omega) (by omega) (by omega) (by omega))) ((T_224_77 ..).trans (ci_f (by decide) rfl)))
      have hs2 := hs (j + 1) cs1 (sd + 1) co1 ar1 (uc st1 sd (qc (I 83) n j)) (by omega) (by omega) (by show ¬ isT (uc st1 sd _ sd) ∧ ¬ isP (uc st1 sd _ sd); rw [uc_s]; omega)
      have hsn2 := (SUM_ok hq l (j + 1)).1
      cases hsub2 : SUM (qc (I 83) n) l (j + 1) with
      | inl e0 =>
        rw [hsub2] at hs2
        refine CC_f hk (hsn2 _ hsub2) ?_
        rw [e2]
        exact PFl_m hs2 (fun x hx => r3 x (by omega))
      | inr w2 =>
        obtain ⟨j2, g⟩ := w2
        rw [hsub2] at hs2
        obtain ⟨hv2, cs2, bh2, co2, ar2, st2, e3, ⟨s1, s2, s3, s4⟩⟩ := hs2
        have top : st2 sd = qc (I 83) n j := (s2 sd (Nat.lt_succ_self _)).trans uc_s
        have he2 := hr_e (qc_rng (I 83) n j2).1
        have hn2 := fau_neg (f := 1) (by decide) j2
        have g2 := GO_else (d := d + 2) (p := j2) (cs := cs2) (sd := sd + 1) (op := op) (bh := 0) (co := co2) (ar := ar2) (st := st2) (sp := sp) (rt := rt) (tt := tt) (z := z) h (by omega) hv2.1 hv2.2 (by show ¬ isT (st2 sd); omega) (by show ¬ isP (st2 sd); omega)
        have e4 := e2.trans (e3.trans P61)
        by_cases c2 : qc (I 83) n j2 = 93
        · rw [show hrb (qc (I 83) n j2) = 93 by omega] at g2
          exact ⟨fun _ => CC_f hk hn2 (q_tr e4 (q_bd (g2.trans (GO_brf (by omega) (by omega) (by show ¬ st2 sd = 91; omega))) (q_tr (T_224_77 ..) (q_ct rfl (q_tr (P39x (d := d + 5) hn2) ⟨_, _, _, _, _, _, _, _, rfl, fun x hx => ⟨(s3 x (by omega)).1.trans (r3 x (by omega)).1, (s3 x (by omega)).2.trans (r3 x (by omega)).2⟩⟩))))), fun q => absurd q (by omega)⟩
        · by_cases c3 : isS (qc (I 83) n j2)
          · rw [show hrb (qc (I 83) n j2) = qc (I 83) n j2 by omega] at g2
            exact ⟨fun _ => CC_f hk hn2 (q_tr e4 (q_bd (g2.trans (GO_sgf c3 (by omega) (by omega) (Or.inr (by show isS (st2 sd); omega)))) (q_tr (T_224_77 ..) (q_cf (by decide) (q_tr (P39x (d := d + 5) hn2) ⟨_, _, _, _, _, _, _, _, rfl, fun x hx => ⟨(s3 x (by omega)).1.trans (r3 x (by omega)).1, (s3 x (by omega)).2.trans (r3 x (by omega)).2⟩⟩))))), fun q => absurd q (by omega)⟩
          · have e5 : Call PG (d + 7) 224 [(2, 82)] (HR I p 0 cs op sd 0 bh co ar st, RF sp rt tt z.1, z) = some (none, (HE I j2 0 st2 (EN (160 * t) st2 sd (cs2 + 1) op (uc co2 (160 * t + cs2) (st2 sd)) (uc ar2 (160 * t + cs2) 0)), RF sp rt tt z.1, z)) := by
              refine e4.trans (bd_t (g2.trans (GO_fin (d := d + 2) h (by omega) (by omega) (by omega) (by omega))) ?_)
              refine (T_224_77 ..).trans (ci_t rfl ?_)
              refine (T_224_39 ..).trans (ci_t rfl (bd_t S_217 ?_))
              refine (T_224_93 ..).trans ?_
              rw [bz_t rfl]
              refine ci_f (by decide) (bd_t (S_236 (d := d + 3) h sd (cs2 + 1) op _ _ (by omega) (by omega) (by omega)) ?_)
              exact T_224_100 ..
            have e6 : Run PG (Call PG (d + 7)) 221 57 [(2, 82), (0, (k : Int)), (0, 1)] [] (HR I p 0 cs op sd 0 bh co ar st, RF sp rt tt z.1, z) (0, 0) = Run PG (Call PG (d + 7)) 221 79 [(2, 82), (0, (k : Int)), (0, 1)] [] (HE I j2 0 st2 (EN (160 * t) st2 sd (cs2 + 1) op (uc co2 (160 * t + cs2) (st2 sd)) (uc ar2 (160 * t + cs2) 0)), RF sp rt tt z.1, z) (0, 0) := P57.trans (bd_t e5 rfl)
            refine ⟨fun c4 => q_tr e6 (CFl_m (EE_bad h hk (by omega) c4) (fun x hx => ⟨(uc_o (by omega)).trans ((s3 x (by omega)).1.trans (r3 x (by omega)).1), (uc_o (by omega)).trans ((s3 x (by omega)).2.trans (r3 x (by omega)).2)⟩)), fun _ => ⟨cs2 + 1, 0, 1, _, _, st2, e6, by omega, fun x hx => ?_, fun x hx => ?_, ?_⟩⟩
            · rw [s2 x (by omega), uc_o (by omega), r2 x hx]
            · rw [uc_o (by omega), uc_o (by omega), (s3 x (by omega)).1, (s3 x (by omega)).2]
              exact r3 x hx
            · refine Cr_cl.2.2.1 (Cr_m r4 (fun x h1 h2 => ?_)) (Cr_m s4 (fun x h1 h2 => ⟨uc_o (by omega), uc_o (by omega)⟩)) (uc_s.trans top) (Or.inr (Or.inr c1))
              show uc _ _ _ _ = _ ∧ uc _ _ _ _ = _
              rw [uc_o (by omega), uc_o (by omega), (s3 _ (by omega)).1, (s3 _ (by omega)).2]
              exact ⟨rfl, rfl⟩
    · rw [if_neg c1]
      refine CC_f hk hn1 (q_tr (hN.trans (e1.trans P61)) ?_)
      by_cases c2 : qc (I 83) n j = 93
      · rw [show hrb (qc (I 83) n j) = 93 by omega] at g1
        exact q_bd (g1.trans (GO_brf (by omega) (by omega) (by omega))) (q_tr (T_224_77 ..) (q_ct rfl (q_tr (P39x (d := d + 5) hn1) ⟨_, _, _, _, _, _, _, _, rfl, fun x hx => r3 x (by omega)⟩)))
      · exact q_bd (g1.trans (GO_finf (d := d + 2) (by omega) (by omega) (by omega) (by omega))) (q_tr (T_224_77 ..) (q_ct rfl (q_tr (P39x (d := d + 5) hn1) ⟨_, _, _, _, _, _, _, _, rfl, fun x hx => r3 x (by omega)⟩)))

theorem RQ_AN (h : RX I n t) {sub : Nat → PR} (hs : RC I sp rt tt z n t k d op isB A1 sub) (hb : PSB sub) {p0 cs0 sd0 : Nat} {co0 ar0 st0 : Nat → Int} (h1 : 1 ≤ sd0) (h0 : cs0 + sd0 ≤ p0) (hB : (tp st0 sd0) = 40 ∨ (tp st0 sd0) = 124) : ∀ (u pa cs : Nat) (bh : Int) (co ar st : Nat → Int) (fa : FM), n ≤ u + (pa + 1) → pa + 1 ≤ n → BoolF fa → RK n t p0 cs0 sd0 co0 ar0 st0 pa cs co ar st fa → match rch (qc (I 83) n) 38 andF sub u (pa + 1) with
    | .inl e => CFl I sp rt tt z t k co ar e (Run PG (Call PG (d + 7)) 221 57 [(2, 82), (0, (k : Int)), (0, 1)] [] (HR I (pa + 1) 0 cs op (sd0 + 1) 0 bh co ar (uc st sd0 38), RF sp rt tt z.1, z) (0, 0))
    | .inr (j, f) => (¬ A2 (qc (I 83) n j) → CFl I sp rt tt z t k co ar (fau 1 j) (Run PG (Call PG (d + 7)) 221 57 [(2, 82), (0, (k : Int)), (0, 1)] [] (HR I (pa + 1) 0 cs op (sd0 + 1) 0 bh co ar (uc st sd0 38), RF sp rt tt z.1, z) (0, 0))) ∧ (A2 (qc (I 83) n j) → ∃ (cs' : Nat) (bh' m' : Int) (co' ar' st' : Nat → Int), Run PG (Call PG (d + 7)) 221 57 [(2, 82), (0, (k : Int)), (0, 1)] [] (HR I (pa + 1) 0 cs op (sd0 + 1) 0 bh co ar (uc st sd0 38), RF sp rt tt z.1, z) (0, 0) = Run PG (Call PG (d + 7)) 221 79 [(2, 82), (0, (k : Int)), (0, m')] [] (HE I j bh' st' (EN (160 * t) st' sd0 cs' op co' ar'), RF sp rt tt z.1, z) (0, 0) ∧ RK n t p0 cs0 sd0 co0 ar0 st0 j cs' co' ar' st' (andF fa f)) := by
  have hq := qc_OQ (I 83) n
  have hm := h.2.1
  intro u
  induction u with
  | zero =>
    intro pa cs bh co ar st fa hu hpn hba hr
    obtain ⟨r1, r2, r3, r4⟩ := hr
    have hs1 := hs (pa + 1) cs (sd0 + 1) bh co ar (uc st sd0 38) (by omega) (by omega) hpn (by show isB (uc st sd0 38 sd0); rw [uc_s]; decide)
    unfold rch
    cases hsub : sub (pa + 1) with
    | inl e0 =>
      rw [hsub] at hs1
      exact hs1
    | inr w =>
      obtain ⟨j, f⟩ := w
      rw [hsub] at hs1
      by_cases ca : A1 (qc (I 83) n j)
      · obtain ⟨cs1, bh1, m1, co1, ar1, st1, e1, s1, _⟩ := hs1.2 ca
        exact absurd s1 (by omega)
      · exact ⟨fun _ => hs1.1 ca, fun q => absurd q (by omega)⟩
  | succ u ih =>
    intro pa cs bh co ar st fa hu hpn hba hr
    obtain ⟨r1, r2, r3, r4⟩ := hr
    have hs1 := hs (pa + 1) cs (sd0 + 1) bh co ar (uc st sd0 38) (by omega) (by omega) hpn (by show isB (uc st sd0 38 sd0); rw [uc_s]; decide)
    unfold rch
    cases hsub : sub (pa + 1) with
    | inl e0 =>
      rw [hsub] at hs1
      exact hs1
    | inr w =>
      obtain ⟨j, f⟩ := w
      have bf := hb _ _ _ hsub
      rw [hsub] at hs1
      dsimp only
      by_cases ca : A1 (qc (I 83) n j)
      · obtain ⟨cs1, bh1, m1, co1, ar1, st1, e1, s1, s2, s3, s4⟩ := hs1.2 ca
        have top : st1 sd0 = 38 := (s2 sd0 (Nat.lt_succ_self _)).trans uc_s
        have k2 : ∀ x, x < sd0 → st1 x = st0 x := fun x hx => by rw [s2 x (by omega), uc_o (by omega), r2 x hx]
        have hts := tp_s k2
        have e2 := e1.trans (EE_red (d := d) h (by omega) (by omega) (by omega) (Or.inl ⟨top, ca⟩))
        have hk2 : RK n t p0 cs0 sd0 co0 ar0 st0 j (cs1 + 1) (uc co1 (160 * t + cs1) (st1 sd0)) (uc ar1 (160 * t + cs1) 0) st1 (andF fa f) := by
          refine ⟨by omega, k2, fun x hx => ?_, ?_⟩
          · rw [uc_o (by omega), uc_o (by omega), (s3 x (by omega)).1, (s3 x (by omega)).2]
            exact r3 x hx
          · refine Cr_cl.2.2.2.2.1 (Cr_m r4 (fun x h1 h2 => ?_)) (Cr_m s4 (fun x h1 h2 => ⟨uc_o (by omega), uc_o (by omega)⟩)) (uc_s.trans top) hba bf
            show uc _ _ _ _ = _ ∧ uc _ _ _ _ = _
            rw [uc_o (by omega), uc_o (by omega), (s3 _ (by omega)).1, (s3 _ (by omega)).2]
            exact ⟨rfl, rfl⟩
        by_cases c1 : qc (I 83) n j = 38
        · have hl := OQ_lt hq (by decide) c1
          rw [if_pos c1]
          have e3 := e2.trans (EE_amp (d := d) h (by omega) (by omega) c1 (by omega))
          have ih' := ih j (cs1 + 1) bh1 _ _ st1 (andF fa f) (by omega) (by omega) (BoolF_and bf) hk2
          cases hr2 : rch (qc (I 83) n) 38 andF sub u (j + 1) with
          | inl e0 =>
            rw [hr2] at ih'
            exact q_tr (Q := CFl I sp rt tt z t k co ar _) e3 (CFl_m ih' (fun x hx => ⟨(uc_o (by omega)).trans (s3 x (by omega)).1, (uc_o (by omega)).trans (s3 x (by omega)).2⟩))
          | inr w2 =>
            obtain ⟨j2, g⟩ := w2
            rw [hr2] at ih'
            dsimp only
            refine ⟨fun q => q_tr (Q := CFl I sp rt tt z t k co ar _) e3 (CFl_m (ih'.1 q) (fun x hx => ⟨(uc_o (by omega)).trans (s3 x (by omega)).1, (uc_o (by omega)).trans (s3 x (by omega)).2⟩)), fun q => ?_⟩
            obtain ⟨cs3, bh3, m3, co3, ar3, st3, e4, hk3⟩ := ih'.2 q
            rw [andF_as] at hk3
            exact ⟨cs3, bh3, m3, co3, ar3, st3, e3.trans e4, hk3⟩
        · rw [if_neg c1]
          exact ⟨fun q => absurd ca (by omega), fun q => ⟨cs1 + 1, bh1, m1, _, _, st1, e2, hk2⟩⟩
      · rw [if_neg (by omega)]
        exact ⟨fun _ => hs1.1 ca, fun q => absurd q (by omega)⟩
theorem R_AN (h : RX I n t) {sub : Nat → PR} (hs : RC I sp rt tt z n t k d op isB A1 sub) (hb : PSB sub) : RC I sp rt tt z n t k d op (fun c => c = 40 ∨ c = 124) A2 (rch (qc (I 83) n) 38 andF sub 160) := by
  have hq := qc_OQ (I 83) n
  have hm := h.2.1
  intro p cs sd bh co ar st hsd hcs hp hB
  have hs1 := hs p cs sd bh co ar st hsd hcs hp (by omega)
  show match rch (qc (I 83) n) 38 andF sub (159 + 1) p with
    | .inl e => _
    | .inr (j, f) => _
  unfold rch
  cases hsub : sub p with
  | inl e0 =>
    rw [hsub] at hs1
    exact hs1
  | inr w =>
    obtain ⟨j, f⟩ := w
    have bf := hb _ _ _ hsub
    rw [hsub] at hs1
    dsimp only
    by_cases ca : A1 (qc (I 83) n j)
    · obtain ⟨cs1, bh1, m1, co1, ar1, st1, e1, hk1⟩ := hs1.2 ca
      have hk0 := hk1
      obtain ⟨s1, s2, s3, s4⟩ := hk1
      have hts := tp_s s2
      by_cases c1 : qc (I 83) n j = 38
      · have hl := OQ_lt hq (by decide) c1
        rw [if_pos c1]
        have e3 := e1.trans (EE_amp (d := d) h (by omega) (by omega) c1 (by omega))
        have ih' := RQ_AN h hs hb hsd hcs hB 159 j cs1 bh1 co1 ar1 st1 f (by omega) (by omega) bf hk0
        cases hr2 : rch (qc (I 83) n) 38 andF sub 159 (j + 1) with
        | inl e0 =>
          rw [hr2] at ih'
          exact q_tr (Q := CFl I sp rt tt z t k co ar _) e3 (CFl_m ih' (fun x hx => s3 x (by omega)))
        | inr w2 =>
          obtain ⟨j2, g⟩ := w2
          rw [hr2] at ih'
          dsimp only
          refine ⟨fun q => q_tr (Q := CFl I sp rt tt z t k co ar _) e3 (CFl_m (ih'.1 q) (fun x hx => s3 x (by omega))), fun q => ?_⟩
          obtain ⟨cs3, bh3, m3, co3, ar3, st3, e4, hk3⟩ := ih'.2 q
          exact ⟨cs3, bh3, m3, co3, ar3, st3, e3.trans e4, hk3⟩
      · rw [if_neg c1]
        exact ⟨fun q => absurd ca (by omega), fun q => ⟨cs1, bh1, m1, co1, ar1, st1, e1, hk0⟩⟩
    · rw [if_neg (by omega)]
      exact ⟨fun _ => hs1.1 ca, fun q => absurd q (by omega)⟩

theorem RQ_OO (h : RX I n t) {sub : Nat → PR} (hs : RC I sp rt tt z n t k d op (fun c => c = 40 ∨ c = 124) A2 sub) (hb : PSB sub) {p0 cs0 sd0 : Nat} {co0 ar0 st0 : Nat → Int} (h1 : 1 ≤ sd0) (h0 : cs0 + sd0 ≤ p0) (hB : (tp st0 sd0) = 40) : ∀ (u pa cs : Nat) (bh : Int) (co ar st : Nat → Int) (fa : FM), n ≤ u + (pa + 1) → pa + 1 ≤ n → BoolF fa → RK n t p0 cs0 sd0 co0 ar0 st0 pa cs co ar st fa → match rch (qc (I 83) n) 124 orF sub u (pa + 1) with
    | .inl e => CFl I sp rt tt z t k co ar e (Run PG (Call PG (d + 7)) 221 57 [(2, 82), (0, (k : Int)), (0, 1)] [] (HR I (pa + 1) 0 cs op (sd0 + 1) 0 bh co ar (uc st sd0 124), RF sp rt tt z.1, z) (0, 0))
    | .inr (j, f) => (¬ (fun c => c = 41) (qc (I 83) n j) → CFl I sp rt tt z t k co ar (fau 1 j) (Run PG (Call PG (d + 7)) 221 57 [(2, 82), (0, (k : Int)), (0, 1)] [] (HR I (pa + 1) 0 cs op (sd0 + 1) 0 bh co ar (uc st sd0 124), RF sp rt tt z.1, z) (0, 0))) ∧ ((fun c => c = 41) (qc (I 83) n j) → ∃ (cs' : Nat) (bh' m' : Int) (co' ar' st' : Nat → Int), Run PG (Call PG (d + 7)) 221 57 [(2, 82), (0, (k : Int)), (0, 1)] [] (HR I (pa + 1) 0 cs op (sd0 + 1) 0 bh co ar (uc st sd0 124), RF sp rt tt z.1, z) (0, 0) = Run PG (Call PG (d + 7)) 221 79 [(2, 82), (0, (k : Int)), (0, m')] [] (HE I j bh' st' (EN (160 * t) st' sd0 cs' op co' ar'), RF sp rt tt z.1, z) (0, 0) ∧ RK n t p0 cs0 sd0 co0 ar0 st0 j cs' co' ar' st' (orF fa f)) := by
  have hq := qc_OQ (I 83) n
  have hm := h.2.1
  intro u
  induction u with
  | zero =>
    intro pa cs bh co ar st fa hu hpn hba hr
    obtain ⟨r1, r2, r3, r4⟩ := hr
    have hs1 := hs (pa + 1) cs (sd0 + 1) bh co ar (uc st sd0 124) (by omega) (by omega) hpn (by show (fun c => c = 40 ∨ c = 124) (uc st sd0 124 sd0); rw [uc_s]; decide)
    unfold rch
    cases hsub : sub (pa + 1) with
    | inl e0 =>
      rw [hsub] at hs1
      exact hs1
    | inr w =>
      obtain ⟨j, f⟩ := w
      rw [hsub] at hs1
      by_cases ca : A2 (qc (I 83) n j)
      · obtain ⟨cs1, bh1, m1, co1, ar1, st1, e1, s1, _⟩ := hs1.2 ca
        exact absurd s1 (by omega)
      · exact ⟨fun _ => hs1.1 ca, fun q => absurd q (by omega)⟩
  | succ u ih =>
    intro pa cs bh co ar st fa hu hpn hba hr
    obtain ⟨r1, r2, r3, r4⟩ := hr
    have hs1 := hs (pa + 1) cs (sd0 + 1) bh co ar (uc st sd0 124) (by omega) (by omega) hpn (by show (fun c => c = 40 ∨ c = 124) (uc st sd0 124 sd0); rw [uc_s]; decide)
    unfold rch
    cases hsub : sub (pa + 1) with
    | inl e0 =>
      rw [hsub] at hs1
      exact hs1
    | inr w =>
      obtain ⟨j, f⟩ := w
      have bf := hb _ _ _ hsub
      rw [hsub] at hs1
      dsimp only
      by_cases ca : A2 (qc (I 83) n j)
      · obtain ⟨cs1, bh1, m1, co1, ar1, st1, e1, s1, s2, s3, s4⟩ := hs1.2 ca
        have top : st1 sd0 = 124 := (s2 sd0 (Nat.lt_succ_self _)).trans uc_s
        have k2 : ∀ x, x < sd0 → st1 x = st0 x := fun x hx => by rw [s2 x (by omega), uc_o (by omega), r2 x hx]
        have hts := tp_s k2
        have e2 := e1.trans (EE_red (d := d) h (by omega) (by omega) (by omega) (Or.inr ⟨top, ca⟩))
        have hk2 : RK n t p0 cs0 sd0 co0 ar0 st0 j (cs1 + 1) (uc co1 (160 * t + cs1) (st1 sd0)) (uc ar1 (160 * t + cs1) 0) st1 (orF fa f) := by
          refine ⟨by omega, k2, fun x hx => ?_, ?_⟩
          · rw [uc_o (by omega), uc_o (by omega), (s3 x (by omega)).1, (s3 x (by omega)).2]
            exact r3 x hx
          · refine Cr_cl.2.2.2.2.2 (Cr_m r4 (fun x h1 h2 => ?_)) (Cr_m s4 (fun x h1 h2 => ⟨uc_o (by omega), uc_o (by omega)⟩)) (uc_s.trans top) hba bf
            show uc _ _ _ _ = _ ∧ uc _ _ _ _ = _
            rw [uc_o (by omega), uc_o (by omega), (s3 _ (by omega)).1, (s3 _ (by omega)).2]
            exact ⟨rfl, rfl⟩
        by_cases c1 : qc (I 83) n j = 124
        · have hl := OQ_lt hq (by decide) c1
          rw [if_pos c1]
          have e3 := e2.trans (EE_or (d := d) h (by omega) (by omega) c1 (by omega))
          have ih' := ih j (cs1 + 1) bh1 _ _ st1 (orF fa f) (by omega) (by omega) (BoolF_or bf) hk2
          cases hr2 : rch (qc (I 83) n) 124 orF sub u (j + 1) with
          | inl e0 =>
            rw [hr2] at ih'
            exact q_tr (Q := CFl I sp rt tt z t k co ar _) e3 (CFl_m ih' (fun x hx => ⟨(uc_o (by omega)).trans (s3 x (by omega)).1, (uc_o (by omega)).trans (s3 x (by omega)).2⟩))
          | inr w2 =>
            obtain ⟨j2, g⟩ := w2
            rw [hr2] at ih'
            dsimp only
            refine ⟨fun q => q_tr (Q := CFl I sp rt tt z t k co ar _) e3 (CFl_m (ih'.1 q) (fun x hx => ⟨(uc_o (by omega)).trans (s3 x (by omega)).1, (uc_o (by omega)).trans (s3 x (by omega)).2⟩)), fun q => ?_⟩
            obtain ⟨cs3, bh3, m3, co3, ar3, st3, e4, hk3⟩ := ih'.2 q
            rw [orF_as] at hk3
            exact ⟨cs3, bh3, m3, co3, ar3, st3, e3.trans e4, hk3⟩
        · rw [if_neg c1]
          exact ⟨fun q => absurd ca (by omega), fun q => ⟨cs1 + 1, bh1, m1, _, _, st1, e2, hk2⟩⟩
      · rw [if_neg (by omega)]
        exact ⟨fun _ => hs1.1 ca, fun q => absurd q (by omega)⟩
theorem R_OO (h : RX I n t) {sub : Nat → PR} (hs : RC I sp rt tt z n t k d op (fun c => c = 40 ∨ c = 124) A2 sub) (hb : PSB sub) : RC I sp rt tt z n t k d op (fun c => c = 40) (fun c => c = 41) (rch (qc (I 83) n) 124 orF sub 160) := by
  have hq := qc_OQ (I 83) n
  have hm := h.2.1
  intro p cs sd bh co ar st hsd hcs hp hB
  have hs1 := hs p cs sd bh co ar st hsd hcs hp (by exact Or.inl hB)
  show match rch (qc (I 83) n) 124 orF sub (159 + 1) p with
    | .inl e => _
    | .inr (j, f) => _
  unfold rch
  cases hsub : sub p with
  | inl e0 =>
    rw [hsub] at hs1
    exact hs1
  | inr w =>
    obtain ⟨j, f⟩ := w
    have bf := hb _ _ _ hsub
    rw [hsub] at hs1
    dsimp only
    by_cases ca : A2 (qc (I 83) n j)
    · obtain ⟨cs1, bh1, m1, co1, ar1, st1, e1, hk1⟩ := hs1.2 ca
      have hk0 := hk1
      obtain ⟨s1, s2, s3, s4⟩ := hk1
      have hts := tp_s s2
      by_cases c1 : qc (I 83) n j = 124
      · have hl := OQ_lt hq (by decide) c1
        rw [if_pos c1]
        have e3 := e1.trans (EE_or (d := d) h (by omega) (by omega) c1 (by omega))
        have ih' := RQ_OO h hs hb hsd hcs hB 159 j cs1 bh1 co1 ar1 st1 f (by omega) (by omega) bf hk0
        cases hr2 : rch (qc (I 83) n) 124 orF sub 159 (j + 1) with
        | inl e0 =>
          rw [hr2] at ih'
          exact q_tr (Q := CFl I sp rt tt z t k co ar _) e3 (CFl_m ih' (fun x hx => s3 x (by omega)))
        | inr w2 =>
          obtain ⟨j2, g⟩ := w2
          rw [hr2] at ih'
          dsimp only
          refine ⟨fun q => q_tr (Q := CFl I sp rt tt z t k co ar _) e3 (CFl_m (ih'.1 q) (fun x hx => s3 x (by omega))), fun q => ?_⟩
          obtain ⟨cs3, bh3, m3, co3, ar3, st3, e4, hk3⟩ := ih'.2 q
          exact ⟨cs3, bh3, m3, co3, ar3, st3, e3.trans e4, hk3⟩
      · rw [if_neg c1]
        exact ⟨fun q => absurd ca (by omega), fun q => ⟨cs1, bh1, m1, co1, ar1, st1, e1, hk0⟩⟩
    · rw [if_neg (by omega)]
      exact ⟨fun _ => hs1.1 ca, fun q => absurd q (by omega)⟩

theorem R_PIECE (h : RX I n t) (hk : k < 360) : ∀ (l : Nat) (op : Int), op = 6 - (l : Int) ∧ l ≤ 5 → RC I sp rt tt z n t k d op isB A1 (PIECE (qc (I 83) n) l) := by
  have hq := qc_OQ (I 83) n
  have hm := h.2.1
  intro l
  induction l with
  | zero =>
    intro op ho p cs sd bh co ar st hsd hcs hp hB
    unfold PIECE
    by_cases c : qc (I 83) n p = 33 ∨ qc (I 83) n p = 40
    · have hl := OQ_lt hq (c := qc (I 83) n p) (by omega) rfl
      have hn5 := fau_neg (f := 5) (by decide) p
      rw [if_pos c]
      refine CC_f hk hn5 ?_
      rw [O224 h (by omega) (by omega) (by omega) c (bad := fau 5 p) (by rw [if_pos (by omega)])]
      exact X224 hn5
    · rw [if_neg c]
      exact R_CMP h hk ho hsd hcs hp hB c
  | succ l ih =>
    intro op ho p cs sd bh co ar st hsd hcs hp hB
    unfold PIECE
    by_cases c : qc (I 83) n p = 33
    · have hl := OQ_lt hq (by decide) c
      rw [if_pos c]
      have e1 : Run PG (Call PG (d + 7)) 221 57 [(2, 82), (0, (k : Int)), (0, 1)] [] (HR I p 0 cs op sd 0 bh co ar st, RF sp rt tt z.1, z) (0, 0) = Run PG (Call PG (d + 7)) 221 57 [(2, 82), (0, (k : Int)), (0, 1)] [] (HR I (p + 1) 0 cs (op + 1) (sd + 1) 0 bh co ar (uc st sd 33), RF sp rt tt z.1, z) (0, 0) := by
        rw [P57, P57, O224 h (by omega) (by omega) (by omega) (Or.inl c) (bad := 0) (by rw [if_neg (by omega)]), c]
      have ih' := ih (op + 1) (by omega) (p + 1) cs (sd + 1) bh co ar (uc st sd 33) (by omega) (by omega) (by omega) (by show isB (uc st sd 33 sd); rw [uc_s]; decide)
      have hb := PIECE_b (q := qc (I 83) n) l (p + 1)
      cases hsub : PIECE (qc (I 83) n) l (p + 1) with
      | inl e0 =>
        rw [hsub] at ih'
        exact q_tr (Q := CFl I sp rt tt z t k co ar _) e1 ih'
      | inr w =>
        obtain ⟨j, f⟩ := w
        have bf := hb _ _ hsub
        rw [hsub] at ih'
        dsimp only
        refine ⟨fun q => q_tr (Q := CFl I sp rt tt z t k co ar _) e1 (ih'.1 q), fun q => ?_⟩
        obtain ⟨cs1, bh1, m1, co1, ar1, st1, e2, s1, s2, s3, s4⟩ := ih'.2 q
        have top : st1 sd = 33 := (s2 sd (Nat.lt_succ_self _)).trans uc_s
        have e3 : EN (160 * t) st1 (sd + 1) cs1 (op + 1) co1 ar1 = EN (160 * t) st1 sd (cs1 + 1) op (uc co1 (160 * t + cs1) 2) (uc ar1 (160 * t + cs1) 0) := by
          refine (if_pos top).trans ?_
          rw [show op + 1 - 1 = op by omega]
        rw [e3] at e2
        refine ⟨cs1 + 1, bh1, m1, _, _, st1, e1.trans e2, by omega, fun x hx => ?_, fun x hx => ?_, ?_⟩
        · rw [s2 x (by omega), uc_o (by omega)]
        · rw [uc_o (by omega), uc_o (by omega)]
          exact s3 x hx
        · exact Cr_cl.2.2.2.1 (Cr_m s4 (fun x h1 h2 => ⟨uc_o (by omega), uc_o (by omega)⟩)) uc_s bf
    · rw [if_neg c]
      by_cases c2 : qc (I 83) n p = 40
      · have hl := OQ_lt hq (by decide) c2
        rw [if_pos c2]
        have e1 : Run PG (Call PG (d + 7)) 221 57 [(2, 82), (0, (k : Int)), (0, 1)] [] (HR I p 0 cs op sd 0 bh co ar st, RF sp rt tt z.1, z) (0, 0) = Run PG (Call PG (d + 7)) 221 57 [(2, 82), (0, (k : Int)), (0, 1)] [] (HR I (p + 1) 0 cs (op + 1) (sd + 1) 0 bh co ar (uc st sd 40), RF sp rt tt z.1, z) (0, 0) := by
          rw [P57, P57, O224 h (by omega) (by omega) (by omega) (Or.inr c2) (bad := 0) (by rw [if_neg (by omega)]), c2]
        have hc := R_OO h (R_AN h (ih (op + 1) (by omega)) (PIECE_b l)) (rch_b (fun _ _ => BoolF_and) (PIECE_b l) 160)
        have hc' := hc (p + 1) cs (sd + 1) bh co ar (uc st sd 40) (by omega) (by omega) (by omega) (by show uc st sd 40 sd = 40; rw [uc_s])
        unfold COND
        cases hsub : rch (qc (I 83) n) 124 orF (rch (qc (I 83) n) 38 andF (PIECE (qc (I 83) n) l) 160) 160 (p + 1) with
        | inl e0 =>
          rw [hsub] at hc'
          exact q_tr (Q := CFl I sp rt tt z t k co ar _) e1 hc'
        | inr w =>
          obtain ⟨j, f⟩ := w
          rw [hsub] at hc'
          dsimp only
          by_cases c3 : qc (I 83) n j = 41
          · have hl2 := OQ_lt hq (by decide) c3
            rw [if_pos c3]
            obtain ⟨cs1, bh1, m1, co1, ar1, st1, e2, s1, s2, s3, s4⟩ := hc'.2 c3
            have top : st1 sd = 40 := (s2 sd (Nat.lt_succ_self _)).trans uc_s
            have e4 : Call PG (d + 7) 237 [(2, 82)] (HR I j 0 cs1 (op + 1) (sd + 1) 0 bh1 co1 ar1 st1, RF sp rt tt z.1, z) = some (some (0, 0), (HE I (j + 1) bh1 st1 (EN (160 * t) st1 sd cs1 op co1 ar1), RF sp rt tt z.1, z)) := by
              refine (GB_41 h c3).trans (bd_t (JU_stop (d := d + 3) (by omega) (by show ¬ st1 sd = 38; omega) (Or.inr (by show ¬ st1 sd = 124; omega))) ?_)
              refine (T_237_61 ..).trans ?_
              rw [hr_sd, w32_of (x := ((sd + 1 : Nat) : Int) - 1) (by omega) (by omega), show ((sd + 1 : Nat) : Int) - 1 = (sd : Int) by omega, hw_sd, hr_op, w32_of (x := op + 1 - 1) (by omega) (by omega), show op + 1 - 1 = op by omega, hw_op, hr_p, w_n (by omega), hw_p]
              refine ci_f (by omega) (ci_t rfl ?_)
              rw [hw_dn]
              refine bd_t (S_236 (d := d + 3) h sd cs1 op co1 ar1 (by omega) (by omega) (by omega)) ?_
              exact T_237_118 ..
            have e5 : Run PG (Call PG (d + 7)) 221 79 [(2, 82), (0, (k : Int)), (0, m1)] [] (HR I j 0 cs1 (op + 1) (sd + 1) 0 bh1 co1 ar1 st1, RF sp rt tt z.1, z) (0, 0) = Run PG (Call PG (d + 7)) 221 79 [(2, 82), (0, (k : Int)), (0, 0)] [] (HE I (j + 1) bh1 st1 (EN (160 * t) st1 sd cs1 op co1 ar1), RF sp rt tt z.1, z) (0, 0) := E79.trans (bd_t e4 ((T_221_90 ..).trans P57z))
            have e6 : EN (160 * t) st1 (sd + 1) cs1 (op + 1) co1 ar1 = (sd + 1, cs1, op + 1, co1, ar1) := EN_id (by show ¬ st1 sd = 33; omega)
            rw [e6] at e2
            have e7 := (e1.trans e2).trans e5
            refine ⟨fun q => q_tr (Q := CFl I sp rt tt z t k co ar _) e7 (CFl_m (EE_bad h hk (by omega) q) (fun x hx => s3 x (by omega))), fun _ => ⟨cs1, bh1, 0, co1, ar1, st1, e7, by omega, fun x hx => ?_, s3, s4⟩⟩
            rw [s2 x (by omega), uc_o (by omega)]
          · rw [if_neg c3]
            exact q_tr (Q := CFl I sp rt tt z t k co ar _) e1 (hc'.1 c3)
      · rw [if_neg c2]
        exact R_CMP h hk ho hsd hcs hp hB (fun q => q.elim c c2)
/-- a clause's condition behind its ( -/
theorem R_COND (h : RX I n t) (hk : k < 360) : RC I sp rt tt z n t k d 1 (fun c => c = 40) (fun c => c = 41) (COND (qc (I 83) n) (PIECE (qc (I 83) n) 5)) :=
  R_OO h (R_AN h (R_PIECE h hk 5 1 (by decide)) (PIECE_b 5)) (rch_b (fun _ _ => BoolF_and) (PIECE_b 5) 160)
end RE1

