/-! texts: the second reader's sums -/
theorem NUMU_all {q : Nat → Int} {i : Nat} : NUMU q 99999 i = NUM q i := by
  unfold NUMU
  cases h : NUM q i with
  | inl e => rfl
  | inr w =>
    obtain ⟨j, v⟩ := w
    exact if_pos (NUM_v h).2
section RS0
variable {d : Nat} {I : Nat → Nat → Int} {sp rt : Nat} {tt : Nat → Nat} {z : Zs} {n t : Nat} {p cs sd : Nat} {op dn bh : Int} {co ar st : Nat → Int}
theorem SU_step (h : RX I n t) (hc : cs < 160) (hs : sd + 1 ≤ 200) {pl : Int} (hp : isT (st sd) ∨ (¬ pl = 0 ∧ isP (st sd))) : Call PG (d + 3) 233 [(2, 82), (0, pl)] (HR I p 0 cs op (sd + 1) 0 bh co ar st, RF sp rt tt z.1, z) = Call PG (d + 3) 233 [(2, 82), (0, pl)] (HR I p 0 (cs + 1) op sd 0 bh (uc co (160 * t + cs) (st sd)) (uc ar (160 * t + cs) 0) st, RF sp rt tt z.1, z) := by
  have k : Run PG (Call PG (d + 2)) 233 29 [(2, 82), (0, pl)] [(0, st sd), (2, 82)] (HR I p 0 cs op (sd + 1) 0 bh co ar st, RF sp rt tt z.1, z) (0, 0) = Call PG (d + 3) 233 [(2, 82), (0, pl)] (HR I p 0 (cs + 1) op sd 0 bh (uc co (160 * t + cs) (st sd)) (uc ar (160 * t + cs) 0) st, RF sp rt tt z.1, z) := by
    refine (T_233_29 ..).trans (bd_t (S_228 h rfl hc) ?_)
    refine (T_233_33 ..).trans ?_
    rw [hr_sd, w32_of (by omega) (by omega), show ((sd + 1 : Nat) : Int) - 1 = (sd : Int) by omega, hw_sd]
    exact (K_233 ..).symm
  refine (K_233 ..).trans ?_
  refine (T_233_0 ..).trans (bd_t (S_234 hs) ?_)
  refine (T_233_4 ..).trans (bd_t S_231 ?_)
  refine (T_233_7 ..).trans ?_
  show ci (bz (isT (st sd)) = 0) _ _ = _
  by_cases c : isT (st sd)
  · rw [bz_t c]
    exact ci_f (by decide) (bd_t (S_234 hs) k)
  · have c2 := hp.resolve_left c
    rw [bz_f c]
    refine ci_t rfl (ci_f c2.1 (bd_t (S_234 hs) ?_))
    refine (T_233_18 ..).trans (bd_t S_232 ?_)
    refine (T_233_21 ..).trans ?_
    show ci (bz (isP (st sd)) = 0) _ _ = _
    rw [bz_t c2.2]
    exact ci_f (by decide) (bd_t (S_234 hs) k)
theorem SU_stop (hs : sd ≤ 200) {pl : Int} (h1 : ¬ isT (tp st sd)) (h2 : pl = 0 ∨ ¬ isP (tp st sd)) : Call PG (d + 3) 233 [(2, 82), (0, pl)] (HR I p 0 cs op sd 0 bh co ar st, RF sp rt tt z.1, z) = some (none, (HR I p 0 cs op sd 0 bh co ar st, RF sp rt tt z.1, z)) := by
  refine (K_233 ..).trans ?_
  refine (T_233_0 ..).trans (bd_t (S_234 hs) ?_)
  refine (T_233_4 ..).trans (bd_t S_231 ?_)
  refine (T_233_7 ..).trans ?_
  rw [bz_f h1]
  refine ci_t rfl ?_
  by_cases c : pl = 0
  · exact ci_t c rfl
  · refine ci_f c (bd_t (S_234 hs) ?_)
    refine (T_233_18 ..).trans (bd_t S_232 ?_)
    refine (T_233_21 ..).trans ?_
    rw [bz_f (h2.resolve_left c)]
    exact ci_t rfl rfl
theorem GO_nf1 (h : RX I n t) (c : isT (qc (I 83) n p) ∨ isP (qc (I 83) n p)) : Call PG (d + 4) 230 [(2, 82)] (HR I p 0 cs op sd 0 bh co ar st, RF sp rt tt z.1, z) = bd (Call PG (d + 3) 233 [(2, 82), (0, bz (isP (qc (I 83) n p)))] (HR I p 0 cs op sd 0 bh co ar st, RF sp rt tt z.1, z)) (fun v h => Run PG (Call PG (d + 3)) 230 27 [(2, 82), (0, qc (I 83) n p)] (v.toList ++ []) h (0, 0)) := by
  have he := hr_e (qc_rng (I 83) n p).1
  have e : hrb (qc (I 83) n p) = qc (I 83) n p := by omega
  refine (K_230 ..).trans ?_
  refine (T_230_0 ..).trans (bd_t (S_219 h) ?_)
  rw [e]
  refine (T_230_4 ..).trans (bd_t S_231 ?_)
  refine (T_230_9 ..).trans ?_
  by_cases c1 : isT (qc (I 83) n p)
  · rw [bz_t c1]
    refine ci_f (by decide) (bd_t S_232 ?_)
    exact T_230_24 ..
  · rw [bz_f c1]
    refine ci_t rfl (bd_t S_232 ?_)
    refine (T_230_16 ..).trans ?_
    rw [bz_t (c.resolve_left c1)]
    refine ci_f (by decide) (bd_t S_232 ?_)
    rw [bz_t (c.resolve_left c1)]
    exact T_230_24 ..
theorem GO_nf2 (h : RX I n t) (c1 : ¬ isT (qc (I 83) n p)) (c2 : ¬ isP (qc (I 83) n p)) : Call PG (d + 4) 230 [(2, 82)] (HR I p 0 cs op sd 0 bh co ar st, RF sp rt tt z.1, z) = bd (Call PG (d + 3) 233 [(2, 82), (0, 1)] (HR I p 0 cs op sd 0 bh co ar st, RF sp rt tt z.1, z)) (fun v h => Run PG (Call PG (d + 3)) 230 39 [(2, 82), (0, hrb (qc (I 83) n p))] (v.toList ++ []) h (0, 0)) := by
  have he := hr_e (qc_rng (I 83) n p).1
  refine (K_230 ..).trans ?_
  refine (T_230_0 ..).trans (bd_t (S_219 h) ?_)
  refine (T_230_4 ..).trans (bd_t S_231 ?_)
  refine (T_230_9 ..).trans ?_
  rw [bz_f (by omega)]
  refine ci_t rfl (bd_t S_232 ?_)
  refine (T_230_16 ..).trans ?_
  rw [bz_f (by omega)]
  exact ci_t rfl rfl
theorem GO_red (h : RX I n t) (hc : cs < 160) (hs : sd + 1 ≤ 200) (hp : isT (st sd) ∨ (isP (st sd) ∧ ¬ isT (qc (I 83) n p))) : Call PG (d + 4) 230 [(2, 82)] (HR I p 0 cs op (sd + 1) 0 bh co ar st, RF sp rt tt z.1, z) = Call PG (d + 4) 230 [(2, 82)] (HR I p 0 (cs + 1) op sd 0 bh (uc co (160 * t + cs) (st sd)) (uc ar (160 * t + cs) 0) st, RF sp rt tt z.1, z) := by
  by_cases c : isT (qc (I 83) n p) ∨ isP (qc (I 83) n p)
  · rw [GO_nf1 h c, GO_nf1 h c, SU_step h hc hs]
    rcases hp with hp | hp
    · exact Or.inl hp
    · refine Or.inr ⟨?_, hp.1⟩
      rw [bz_t (c.resolve_left hp.2)]
      decide
  · rw [GO_nf2 h (fun q => c (Or.inl q)) (fun q => c (Or.inr q)), GO_nf2 h (fun q => c (Or.inl q)) (fun q => c (Or.inr q)), SU_step h hc hs]
    rcases hp with hp | hp
    · exact Or.inl hp
    · exact Or.inr ⟨by decide, hp.1⟩
theorem GO_push (h : RX I n t) (hs : sd < 200) (hp : p ≤ 1000) (c : (isT (qc (I 83) n p) ∧ ¬ isT (tp st sd)) ∨ (isP (qc (I 83) n p) ∧ ¬ isT (tp st sd) ∧ ¬ isP (tp st sd))) : Call PG (d + 4) 230 [(2, 82)] (HR I p 0 cs op sd 0 bh co ar st, RF sp rt tt z.1, z) = some (some (0, 1), (HR I (p + 1) 0 cs op (sd + 1) 0 bh co ar (uc st sd (qc (I 83) n p)), RF sp rt tt z.1, z)) := by
  rw [GO_nf1 h (by rcases c with c | c; exact Or.inl c.1; exact Or.inr c.1)]
  refine bd_t (SU_stop (by omega) (by rcases c with c | c; exact c.2; exact c.2.1) ?_) ?_
  · rcases c with c | c
    · refine Or.inl (bz_f ?_)
      have := c.1
      omega
    · exact Or.inr c.2.2
  · refine (T_230_27 ..).trans (bd_t (S_223 hs hp) ?_)
    exact T_230_32 ..
theorem GO_else (h : RX I n t) (hs : sd ≤ 200) (c1 : ¬ isT (qc (I 83) n p)) (c2 : ¬ isP (qc (I 83) n p)) (c3 : ¬ isT (tp st sd)) (c4 : ¬ isP (tp st sd)) : Call PG (d + 4) 230 [(2, 82)] (HR I p 0 cs op sd 0 bh co ar st, RF sp rt tt z.1, z) = Run PG (Call PG (d + 3)) 230 39 [(2, 82), (0, hrb (qc (I 83) n p))] [] (HR I p 0 cs op sd 0 bh co ar st, RF sp rt tt z.1, z) (0, 0) := by
  rw [GO_nf2 h c1 c2]
  exact bd_t (SU_stop hs c3 (Or.inr c4)) rfl
theorem GO_br (hs : sd + 1 ≤ 200) (hp : p ≤ 1000) (c : st sd = 91) : Run PG (Call PG (d + 3)) 230 39 [(2, 82), (0, 93)] [] (HR I p 0 cs op (sd + 1) 0 bh co ar st, RF sp rt tt z.1, z) (0, 0) = some (some (0, 1), (HR I (p + 1) 0 cs (w32 (op - 1)) sd 0 1 co ar st, RF sp rt tt z.1, z)) := by
  refine (T_230_39 ..).trans (ci_t rfl (bd_t (S_234 hs) ?_))
  refine (T_230_49 ..).trans ?_
  show ci (st sd = 91) _ _ = _
  refine ci_t c ?_
  rw [hr_sd, w32_of (x := ((sd + 1 : Nat) : Int) - 1) (by omega) (by omega), show ((sd + 1 : Nat) : Int) - 1 = (sd : Int) by omega, hw_sd, hr_op, hw_op, hr_p, w_n hp, hw_p, hw_bh]
theorem GO_brf (hs : sd ≤ 200) (hp : p ≤ 1000) (c : ¬ tp st sd = 91) : Run PG (Call PG (d + 3)) 230 39 [(2, 82), (0, 93)] [] (HR I p 0 cs op sd 0 bh co ar st, RF sp rt tt z.1, z) (0, 0) = some (some (0, 0), (HR I p (fau 1 p) cs op sd 0 bh co ar st, RF sp rt tt z.1, z)) := by
  refine (T_230_39 ..).trans (ci_t rfl (bd_t (S_234 hs) ?_))
  refine (T_230_49 ..).trans ?_
  rw [hr_p]
  refine ci_f c (bd_t (S_220 (by decide) hp) ?_)
  exact T_230_63 ..
theorem GO_sg {x : Int} (hx : isS x) (hs : sd < 200) (hp : p ≤ 1000) (c : ¬ tp st sd = 91) (c2 : ¬ isS (tp st sd)) : Run PG (Call PG (d + 3)) 230 39 [(2, 82), (0, x)] [] (HR I p 0 cs op sd 0 bh co ar st, RF sp rt tt z.1, z) (0, 0) = some (some (0, 1), (HR I (p + 1) 0 cs op (sd + 1) 0 bh co ar (uc st sd x), RF sp rt tt z.1, z)) := by
  refine (T_230_39 ..).trans (ci_f (by omega) (bd_t S_235 ?_))
  refine (T_230_106 ..).trans ?_
  rw [bz_t hx]
  refine ci_f (by decide) (bd_t (S_234 (by omega)) ?_)
  refine (T_230_113 ..).trans (ci_f c (bd_t (S_234 (by omega)) ?_))
  refine (T_230_122 ..).trans (bd_t S_235 ?_)
  refine (T_230_125 ..).trans ?_
  rw [bz_f c2]
  refine ci_t rfl ?_
  refine (T_230_137 ..).trans (bd_t (S_223 hs hp) ?_)
  exact T_230_142 ..
theorem GO_sgf {x : Int} (hx : isS x) (hs : sd < 200) (hp : p ≤ 1000) (c : tp st sd = 91 ∨ isS (tp st sd)) : Run PG (Call PG (d + 3)) 230 39 [(2, 82), (0, x)] [] (HR I p 0 cs op sd 0 bh co ar st, RF sp rt tt z.1, z) (0, 0) = some (some (0, 1), (HR I (p + 1) (fau 1 p) cs op (sd + 1) 0 bh co ar (uc st sd x), RF sp rt tt z.1, z)) := by
  refine (T_230_39 ..).trans (ci_f (by omega) (bd_t S_235 ?_))
  refine (T_230_106 ..).trans ?_
  rw [bz_t hx]
  refine ci_f (by decide) (bd_t (S_234 (by omega)) ?_)
  refine (T_230_113 ..).trans ?_
  rw [hr_p]
  by_cases c1 : tp st sd = 91
  · refine ci_t c1 (bd_t (S_220 (by decide) hp) ?_)
    refine (T_230_137 ..).trans (bd_t (S_223 hs hp) ?_)
    exact T_230_142 ..
  · refine ci_f c1 (bd_t (S_234 (by omega)) ?_)
    refine (T_230_122 ..).trans (bd_t S_235 ?_)
    refine (T_230_125 ..).trans ?_
    rw [bz_t (c.resolve_left c1), hr_p]
    refine ci_f (by decide) (bd_t (S_220 (by decide) hp) ?_)
    refine (T_230_137 ..).trans (bd_t (S_223 hs hp) ?_)
    exact T_230_142 ..
theorem GO_fin (h : RX I n t) {x : Int} (hx : ¬ isS x ∧ ¬ x = 93) (hc : cs < 160) (hs : sd + 1 ≤ 200) (c : isS (st sd)) : Run PG (Call PG (d + 3)) 230 39 [(2, 82), (0, x)] [] (HR I p 0 cs op (sd + 1) 0 bh co ar st, RF sp rt tt z.1, z) (0, 0) = some (some (0, 0), (HR I p 0 (cs + 1) op sd 0 bh (uc co (160 * t + cs) (st sd)) (uc ar (160 * t + cs) 0) st, RF sp rt tt z.1, z)) := by
  refine (T_230_39 ..).trans (ci_f hx.2 (bd_t S_235 ?_))
  refine (T_230_106 ..).trans ?_
  rw [bz_f hx.1]
  refine ci_t rfl (bd_t (S_234 hs) ?_)
  refine (T_230_148 ..).trans (bd_t S_235 ?_)
  refine (T_230_151 ..).trans ?_
  show ci (bz (isS (st sd)) = 0) _ _ = _
  rw [bz_t c]
  refine ci_f (by decide) (bd_t (S_234 hs) ?_)
  refine (T_230_159 ..).trans (bd_t (S_228 h rfl hc) ?_)
  refine (T_230_163 ..).trans ?_
  rw [hr_sd, w32_of (by omega) (by omega), show ((sd + 1 : Nat) : Int) - 1 = (sd : Int) by omega, hw_sd]
  exact T_230_185 ..
theorem GO_finf {x : Int} (hx : ¬ isS x ∧ ¬ x = 93) (hs : sd ≤ 200) (hp : p ≤ 1000) (c : ¬ isS (tp st sd)) : Run PG (Call PG (d + 3)) 230 39 [(2, 82), (0, x)] [] (HR I p 0 cs op sd 0 bh co ar st, RF sp rt tt z.1, z) (0, 0) = some (some (0, 0), (HR I p (fau 1 p) cs op sd 0 bh co ar st, RF sp rt tt z.1, z)) := by
  refine (T_230_39 ..).trans (ci_f hx.2 (bd_t S_235 ?_))
  refine (T_230_106 ..).trans ?_
  rw [bz_f hx.1]
  refine ci_t rfl (bd_t (S_234 hs) ?_)
  refine (T_230_148 ..).trans (bd_t S_235 ?_)
  refine (T_230_151 ..).trans ?_
  rw [bz_f c, hr_p]
  refine ci_t rfl (bd_t (S_220 (by decide) hp) ?_)
  exact T_230_185 ..
/-! the loop of a piece: before a factor (39), behind it (61) -/
theorem P39 : Run PG (Call PG (d + 1)) 224 39 [(2, 82), (0, 1)] [] (HR I p 0 cs op sd 0 0 co ar st, RF sp rt tt z.1, z) (0, 0) = bd (Call PG (d + 1) 225 [(2, 82)] (HR I p 0 cs op sd 0 0 co ar st, RF sp rt tt z.1, z)) (fun v h => Run PG (Call PG (d + 1)) 224 61 [(2, 82), (0, 1)] (v.toList ++ []) h (0, 0)) := by
  refine (T_224_39 ..).trans (ci_f (by decide) (bd_t S_217 ?_))
  refine (T_224_47 ..).trans ?_
  rw [bz_t rfl, hr_bh]
  exact ci_f (by decide) (ci_t rfl rfl)
theorem P39b : Run PG (Call PG (d + 1)) 224 39 [(2, 82), (0, 1)] [] (HR I p 0 cs op sd 0 1 co ar st, RF sp rt tt z.1, z) (0, 0) = Run PG (Call PG (d + 1)) 224 61 [(2, 82), (0, 1)] [] (HR I p 0 cs op sd 0 1 co ar st, RF sp rt tt z.1, z) (0, 0) := by
  refine (T_224_39 ..).trans (ci_f (by decide) (bd_t S_217 ?_))
  refine (T_224_47 ..).trans ?_
  rw [bz_t rfl, hr_bh]
  exact ci_f (by decide) (ci_f (by decide) rfl)
theorem P61 : Run PG (Call PG (d + 1)) 224 61 [(2, 82), (0, 1)] [] (HR I p 0 cs op sd 0 bh co ar st, RF sp rt tt z.1, z) (0, 0) = bd (Call PG (d + 1) 230 [(2, 82)] (HR I p 0 cs op sd 0 0 co ar st, RF sp rt tt z.1, z)) (fun v h => Run PG (Call PG (d + 1)) 224 77 [(2, 82), (0, 1)] (v.toList ++ []) h (0, 0)) := by
  refine (T_224_61 ..).trans ?_
  rw [hw_bh]
  refine bd_t S_217 ?_
  refine (T_224_70 ..).trans ?_
  rw [bz_t rfl]
  exact ci_f (by decide) rfl
/-- a fault ends the piece -/
theorem P39x {e x : Int} (he : e < 0) : Run PG (Call PG (d + 1)) 224 39 [(2, 82), (0, x)] [] (HR I p e cs op sd 0 bh co ar st, RF sp rt tt z.1, z) (0, 0) = some (none, (HR I p e cs op sd 0 bh co ar st, RF sp rt tt z.1, z)) := by
  have k : Run PG (Call PG (d + 1)) 224 93 [(2, 82), (0, x)] [(0, 0)] (HR I p e cs op sd 0 bh co ar st, RF sp rt tt z.1, z) (0, 0) = some (none, (HR I p e cs op sd 0 bh co ar st, RF sp rt tt z.1, z)) := by
    refine (T_224_93 ..).trans (ci_t rfl ?_)
    exact T_224_100 ..
  refine (T_224_39 ..).trans ?_
  by_cases c : x = 0
  · refine ci_t c (bd_t S_217 ?_)
    rw [bz_f (by omega)]
    exact k
  · refine ci_f c (bd_t S_217 ?_)
    refine (T_224_47 ..).trans ?_
    rw [bz_f (by omega)]
    refine ci_t rfl (bd_t S_217 ?_)
    rw [bz_f (by omega)]
    exact k
theorem P61x {e : Int} (he : e < 0) : Run PG (Call PG (d + 1)) 224 61 [(2, 82), (0, 1)] [] (HR I p e cs op sd 0 bh co ar st, RF sp rt tt z.1, z) (0, 0) = some (none, (HR I p e cs op sd 0 0 co ar st, RF sp rt tt z.1, z)) := by
  refine (T_224_61 ..).trans ?_
  rw [hw_bh]
  refine bd_t S_217 ?_
  refine (T_224_70 ..).trans ?_
  rw [bz_f (by omega)]
  exact ci_t rfl (P39x he)
end RS0
/-- the piece ends with fault e -/
def PFl (I : Nat → Nat → Int) (sp rt : Nat) (tt : Nat → Nat) (z : Zs) (t : Nat) (co0 ar0 : Nat → Int) (e : Int) (res : Option Res) : Prop := ∃ (p cs sd : Nat) (op bh : Int) (co ar st : Nat → Int), res = some (none, (HR I p e cs op sd 0 bh co ar st, RF sp rt tt z.1, z)) ∧ ∀ x, x < 160 * t → co x = co0 x ∧ ar x = ar0 x
theorem PFl_m {I : Nat → Nat → Int} {sp rt : Nat} {tt : Nat → Nat} {z : Zs} {t : Nat} {co ar co1 ar1 : Nat → Int} {e : Int} {res : Option Res} (h : PFl I sp rt tt z t co1 ar1 e res) (a : ∀ x, x < 160 * t → co1 x = co x ∧ ar1 x = ar x) : PFl I sp rt tt z t co ar e res := by
  obtain ⟨p, cs, sd, op, bh, co', ar', st, h1, h2⟩ := h
  exact ⟨p, cs, sd, op, bh, co', ar', st, h1, fun x hx => ⟨(h2 x hx).1.trans (a x hx).1, (h2 x hx).2.trans (a x hx).2⟩⟩
/-- codes and stack behind a reading -/
def RK (n t p cs sd : Nat) (co ar st : Nat → Int) (j cs' : Nat) (co' ar' st' : Nat → Int) (f : FM) : Prop :=
  (cs < cs' ∧ cs' + p ≤ cs + j ∧ p < j ∧ j ≤ n) ∧ (∀ x, x < sd → st' x = st x) ∧ (∀ x, x < 160 * t + cs → co' x = co x ∧ ar' x = ar x) ∧ Cr (fun x => co' (160 * t + x)) (fun x => ar' (160 * t + x)) cs cs' f
/-- from before a factor: what sub says is read -/
def RL (I : Nat → Nat → Int) (sp rt : Nat) (tt : Nat → Nat) (z : Zs) (n t D : Nat) (op : Int) (W V : Int → Prop) (sub : Nat → PR) : Prop :=
  ∀ (p cs sd : Nat) (co ar st : Nat → Int), cs + sd ≤ p → p ≤ n → W (tp st sd) → match sub p with
    | .inl e => PFl I sp rt tt z t co ar e (Run PG (Call PG D) 224 39 [(2, 82), (0, 1)] [] (HR I p 0 cs op sd 0 0 co ar st, RF sp rt tt z.1, z) (0, 0))
    | .inr (j, f) => V (qc (I 83) n j) ∧ ∃ (cs' : Nat) (bh' : Int) (co' ar' st' : Nat → Int), Run PG (Call PG D) 224 39 [(2, 82), (0, 1)] [] (HR I p 0 cs op sd 0 0 co ar st, RF sp rt tt z.1, z) (0, 0) = Run PG (Call PG D) 224 61 [(2, 82), (0, 1)] [] (HR I j 0 cs' op sd 0 bh' co' ar' st', RF sp rt tt z.1, z) (0, 0) ∧ RK n t p cs sd co ar st j cs' co' ar' st' f
section RS1
variable {I : Nat → Nat → Int} {sp rt : Nat} {tt : Nat → Nat} {z : Zs} {n t : Nat}
theorem tp_s {st st' : Nat → Int} {sd : Nat} (h : ∀ x, x < sd → st' x = st x) : tp st' sd = tp st sd := by
  cases sd with
  | zero => rfl
  | succ s => exact h s (Nat.lt_succ_self s)
theorem R_FACT (h : RX I n t) {d l : Nat} {op : Int} {W V : Int → Prop} {sub : Nat → PR} (ho : op = 6 - (l : Int) ∧ l ≤ 5) (hw : W 91) (hv : ∀ c, V c → ¬ isT c ∧ ¬ isP c) (hs : l = 0 ∨ RL I sp rt tt z n t (d + 6) (op + 1) W V sub) : RL I sp rt tt z n t (d + 6) op (fun _ => True) (fun _ => True) (FACT (qc (I 83) n) l sub) := by
  intro p cs sd co ar st hcs hp _
  have hq := qc_OQ (I 83) n
  have hm := h.2.1
  have he := hr_e (qc_rng (I 83) n p).1
  unfold FACT
  by_cases c : qc (I 83) n p = 91
  · have hl := OQ_lt hq (by decide) c
    rw [if_pos c]
    have k1 : ∀ bad' : Int, bad' = (if op = 6 then fau 5 p else 0) → Call PG (d + 6) 225 [(2, 82)] (HR I p 0 cs op sd 0 0 co ar st, RF sp rt tt z.1, z) = Run PG (Call PG (d + 5)) 225 0 [(2, 82)] [] (HR I (p + 1) bad' cs (op + 1) (sd + 1) 0 0 co ar (uc st sd 91), RF sp rt tt z.1, z) (0, 0) := by
      intro bad' hb
      refine (K_225 ..).trans ?_
      refine (T_225_0 ..).trans (bd_t S_217 ?_)
      refine (T_225_4 ..).trans ?_
      rw [bz_t rfl]
      refine ci_f (by decide) (bd_t (S_219 h) ?_)
      refine (T_225_11 ..).trans (ci_t (by omega) (bd_t (S_222 h rfl (by omega) (by omega) (by omega)) ?_))
      rw [← hb, show hrb (qc (I 83) n p) = 91 by omega]
      exact T_225_20 ..
    by_cases c2 : l = 0
    · rw [if_pos c2]
      have e6 := k1 (fau 5 p) (by rw [if_pos (by omega)])
      have hn5 := fau_neg (f := 5) (by decide) p
      have k2 : Call PG (d + 6) 225 [(2, 82)] (HR I p 0 cs op sd 0 0 co ar st, RF sp rt tt z.1, z) = some (none, (HR I (p + 1) (fau 5 p) cs (op + 1) (sd + 1) 0 0 co ar (uc st sd 91), RF sp rt tt z.1, z)) := by
        refine e6.trans ?_
        refine (T_225_0 ..).trans (bd_t S_217 ?_)
        refine (T_225_4 ..).trans ?_
        rw [bz_f (by omega)]
        refine ci_t rfl (bd_t S_217 ?_)
        refine (T_225_27 ..).trans ?_
        rw [bz_f (by omega)]
        exact ci_t rfl rfl
      exact q_tr (Q := PFl I sp rt tt z t co ar _) P39 (q_bd k2 (q_tr (P61x hn5) ⟨_, _, _, _, _, _, _, _, rfl, fun _ _ => ⟨rfl, rfl⟩⟩))
    · rw [if_neg c2]
      have e6 := k1 0 (by rw [if_neg (by omega)])
      have e7 : Run PG (Call PG (d + 6)) 224 39 [(2, 82), (0, 1)] [] (HR I p 0 cs op sd 0 0 co ar st, RF sp rt tt z.1, z) (0, 0) = Run PG (Call PG (d + 6)) 224 39 [(2, 82), (0, 1)] [] (HR I (p + 1) 0 cs (op + 1) (sd + 1) 0 0 co ar (uc st sd 91), RF sp rt tt z.1, z) (0, 0) := by
        rw [P39, P39, e6]
        rfl
      have hs' := (hs.resolve_left c2) (p + 1) cs (sd + 1) co ar (uc st sd 91) (by omega) (by omega) (by show W (uc st sd 91 sd); rw [uc_s]; exact hw)
      cases hsub : sub (p + 1) with
      | inl e0 =>
        rw [hsub] at hs'
        exact q_tr (Q := PFl I sp rt tt z t co ar _) e7 hs'
      | inr w =>
        obtain ⟨j, f⟩ := w
        rw [hsub] at hs'
        obtain ⟨hv1, cs', bh', co', ar', st', e8, ⟨r1, r2, r3, r4⟩⟩ := hs'
        have vv := hv _ hv1
        have top : st' sd = 91 := (r2 sd (Nat.lt_succ_self _)).trans uc_s
        dsimp only
        have he2 := hr_e (qc_rng (I 83) n j).1
        have g1 := GO_else (d := d + 2) (p := j) (cs := cs') (sd := sd + 1) (op := op + 1) (bh := 0) (co := co') (ar := ar') (st := st') (sp := sp) (rt := rt) (tt := tt) (z := z) h (by omega) vv.1 vv.2 (by show ¬ isT (st' sd); omega) (by show ¬ isP (st' sd); omega)
        by_cases c3 : qc (I 83) n j = 93
        · have hl3 := OQ_lt hq (by decide) c3
          rw [if_pos c3]
          refine ⟨trivial, cs', 1, co', ar', st', (e7.trans e8).trans ?_, by omega, fun x hx => ?_, r3, r4⟩
          · have k3 : Call PG (d + 6) 230 [(2, 82)] (HR I j 0 cs' (op + 1) (sd + 1) 0 0 co' ar' st', RF sp rt tt z.1, z) = some (some (0, 1), (HR I (j + 1) 0 cs' op sd 0 1 co' ar' st', RF sp rt tt z.1, z)) := by
              refine g1.trans ?_
              rw [show hrb (qc (I 83) n j) = 93 by omega, GO_br (by omega) (by omega) top, w32_of (by omega) (by omega), show op + 1 - 1 = op by omega]
            refine P61.trans (bd_t k3 ?_)
            exact (T_224_77 ..).trans (ci_f (by decide) P39b)
          · rw [r2 x (by omega), uc_o (by omega)]
        · rw [if_neg c3]
          have hn1 := fau_neg (f := 1) (by decide) j
          refine q_tr (Q := PFl I sp rt tt z t co ar _) (e7.trans e8) (q_tr P61 ?_)
          by_cases c4 : isS (qc (I 83) n j)
          · refine q_bd (g1.trans (GO_sgf (by omega) (by omega) (by omega) (Or.inl top))) ?_
            exact q_tr (T_224_77 ..) (q_cf (by decide) (q_tr (P39x hn1) ⟨_, _, _, _, _, _, _, _, rfl, fun x hx => r3 x (by omega)⟩))
          · refine q_bd (g1.trans (GO_finf (by omega) (by omega) (by omega) (by show ¬ isS (st' sd); omega))) ?_
            exact q_tr (T_224_77 ..) (q_ct rfl (q_tr (P39x hn1) ⟨_, _, _, _, _, _, _, _, rfl, fun x hx => r3 x (by omega)⟩))
  · rw [if_neg c]
    have k1 : Call PG (d + 6) 225 [(2, 82)] (HR I p 0 cs op sd 0 0 co ar st, RF sp rt tt z.1, z) = Run PG (Call PG (d + 5)) 225 35 [(2, 82)] [(0, bz (dig (qc (I 83) n p)))] (HR I p 0 cs op sd 0 0 co ar st, RF sp rt tt z.1, z) (0, 0) := by
      refine (K_225 ..).trans ?_
      refine (T_225_0 ..).trans (bd_t S_217 ?_)
      refine (T_225_4 ..).trans ?_
      rw [bz_t rfl]
      refine ci_f (by decide) (bd_t (S_219 h) ?_)
      refine (T_225_11 ..).trans (ci_f (by omega) (bd_t S_217 ?_))
      refine (T_225_27 ..).trans ?_
      rw [bz_t rfl]
      exact ci_f (by decide) (bd_t (S_226 h) rfl)
    by_cases c2 : dig (qc (I 83) n p)
    · rw [if_pos c2]
      obtain ⟨p', v', e⟩ := S_227 (d := d + 1) (p := p) (cs := cs) (op := op) (sd := sd) (dn := 0) (bh := 0) (co := co) (ar := ar) (st := st) (sp := sp) (rt := rt) (tt := tt) (z := z) h rfl hp (u := 99999) (by decide)
      rw [NUMU_all] at e
      cases hn : NUM (qc (I 83) n) p with
      | inl e0 =>
        have hneg := (NUM_ok hq p).1 _ hn
        rw [hn] at e
        have k2 : Call PG (d + 6) 225 [(2, 82)] (HR I p 0 cs op sd 0 0 co ar st, RF sp rt tt z.1, z) = some (none, (HR I p' e0 cs op sd 0 0 co ar st, RF sp rt tt z.1, z)) := by
          refine k1.trans ((T_225_35 ..).trans ?_)
          rw [bz_t c2]
          refine ci_f (by decide) (bd_t e ?_)
          refine (T_225_47 ..).trans (bd_t (S_228b (by omega)) ?_)
          exact (T_225_50 ..).trans (T_225_94 ..)
        exact q_tr (Q := PFl I sp rt tt z t co ar _) P39 (q_bd k2 (q_tr (P61x hneg) ⟨_, _, _, _, _, _, _, _, rfl, fun _ _ => ⟨rfl, rfl⟩⟩))
      | inr w =>
        obtain ⟨j, v⟩ := w
        have o1 := (NUM_ok hq p).2 _ _ hn
        have o2 := NUM_v hn
        rw [hn] at e
        have k2 : Call PG (d + 6) 225 [(2, 82)] (HR I p 0 cs op sd 0 0 co ar st, RF sp rt tt z.1, z) = some (none, (HR I j 0 (cs + 1) op sd 0 0 (uc co (160 * t + cs) 0) (uc ar (160 * t + cs) v) st, RF sp rt tt z.1, z)) := by
          refine k1.trans ((T_225_35 ..).trans ?_)
          rw [bz_t c2]
          refine ci_f (by decide) (bd_t e ?_)
          refine (T_225_47 ..).trans (bd_t (S_228 h rfl (by omega)) ?_)
          exact (T_225_50 ..).trans (T_225_94 ..)
        refine ⟨trivial, cs + 1, 0, _, _, st, P39.trans (bd_t k2 rfl), by omega, fun _ _ => rfl, fun x hx => ⟨uc_o (by omega), uc_o (by omega)⟩, ?_⟩
        exact Cr_cl.1 uc_s uc_s o2.1 o2.2
    · rw [if_neg c2]
      have k3 : Call PG (d + 6) 225 [(2, 82)] (HR I p 0 cs op sd 0 0 co ar st, RF sp rt tt z.1, z) = Run PG (Call PG (d + 5)) 225 60 [(2, 82)] [(0, bz (0 ≤ lix (hrb (qc (I 83) n p))))] (HR I p 0 cs op sd 0 0 co ar st, RF sp rt tt z.1, z) (0, 0) := by
        refine k1.trans ((T_225_35 ..).trans ?_)
        rw [bz_f c2]
        refine ci_t rfl (bd_t (S_219 h) ?_)
        refine (T_225_57 ..).trans ?_
        exact bd_t S_229 rfl
      have ey := lix_y (qc (I 83) n p)
      have ez := lix_y (hrb (qc (I 83) n p))
      by_cases c3 : 0 ≤ lix (qc (I 83) n p)
      · have hy := ey.1 c3
        have eh : hrb (qc (I 83) n p) = qc (I 83) n p := by omega
        have hl : p < n := OQ_lt hq (c := qc (I 83) n p) (by omega) rfl
        rw [if_pos c3]
        have k2 : Call PG (d + 6) 225 [(2, 82)] (HR I p 0 cs op sd 0 0 co ar st, RF sp rt tt z.1, z) = some (none, (HR I (p + 1) 0 (cs + 1) op sd 0 0 (uc co (160 * t + cs) 1) (uc ar (160 * t + cs) (qc (I 83) n p)) st, RF sp rt tt z.1, z)) := by
          refine k3.trans ((T_225_60 ..).trans ?_)
          rw [eh, bz_t c3]
          refine ci_f (by decide) (bd_t (S_219 h) ?_)
          rw [eh]
          refine (T_225_69 ..).trans (bd_t (S_228 h rfl (by omega)) ?_)
          refine (T_225_72 ..).trans ?_
          rw [hr_p, w_n (by omega), hw_p]
          exact T_225_94 ..
        obtain ⟨k, hk⟩ := Int.eq_ofNat_of_zero_le c3
        refine ⟨trivial, cs + 1, 0, _, _, st, P39.trans (bd_t k2 rfl), by omega, fun _ _ => rfl, fun x hx => ⟨uc_o (by omega), uc_o (by omega)⟩, ?_⟩
        have ek : (lix (qc (I 83) n p)).toNat = k := by omega
        rw [ek]
        have eu : uc ar (160 * t + cs) (qc (I 83) n p) (160 * t + cs) = qc (I 83) n p := uc_s
        exact Cr_cl.2.1 uc_s (by show 0 ≤ uc _ _ _ _; rw [eu]; omega) (by show uc _ _ _ _ < 128; rw [eu]; omega) (by show lix (uc _ _ _ _) = _; rw [eu]; exact hk)
      · rw [if_neg c3]
        have hn1 := fau_neg (f := 1) (by decide) p
        have k2 : Call PG (d + 6) 225 [(2, 82)] (HR I p 0 cs op sd 0 0 co ar st, RF sp rt tt z.1, z) = some (none, (HR I p (fau 1 p) cs op sd 0 0 co ar st, RF sp rt tt z.1, z)) := by
          refine k3.trans ((T_225_60 ..).trans ?_)
          rw [bz_f (fun q => c3 (ey.2 (by have := ez.1 q; omega))), hr_p]
          refine ci_t rfl (bd_t (S_220 (by decide) (by omega)) ?_)
          exact T_225_94 ..
        exact q_tr (Q := PFl I sp rt tt z t co ar _) P39 (q_bd k2 (q_tr (P61x hn1) ⟨_, _, _, _, _, _, _, _, rfl, fun _ _ => ⟨rfl, rfl⟩⟩))

theorem RLo_P (h : RX I n t) {d : Nat} {op : Int} {sub : Nat → PR} (hs : RL I sp rt tt z n t (d + 6) op (fun _ => True) (fun _ => True) sub) {p0 cs0 sd0 : Nat} {co0 ar0 st0 : Nat → Int} (h0 : cs0 + sd0 ≤ p0) (ht : ¬ isT (tp st0 sd0)) : ∀ (k j cs : Nat) (bh : Int) (co ar st : Nat → Int) (f : FM), n ≤ k + j → True → RK n t p0 cs0 sd0 co0 ar0 st0 j cs co ar st f → match chL (qc (I 83) n) tT sub k j f with
    | .inl e => PFl I sp rt tt z t co ar e (Run PG (Call PG (d + 6)) 224 61 [(2, 82), (0, 1)] [] (HR I j 0 cs op sd0 0 bh co ar st, RF sp rt tt z.1, z) (0, 0))
    | .inr (j2, g) => (¬ isT (qc (I 83) n j2) ∧ True) ∧ ∃ (cs' : Nat) (bh' : Int) (co' ar' st' : Nat → Int), Run PG (Call PG (d + 6)) 224 61 [(2, 82), (0, 1)] [] (HR I j 0 cs op sd0 0 bh co ar st, RF sp rt tt z.1, z) (0, 0) = Run PG (Call PG (d + 6)) 224 61 [(2, 82), (0, 1)] [] (HR I j2 0 cs' op sd0 0 bh' co' ar' st', RF sp rt tt z.1, z) (0, 0) ∧ RK n t p0 cs0 sd0 co0 ar0 st0 j2 cs' co' ar' st' g := by
  have hq := qc_OQ (I 83) n
  have hm := h.2.1
  intro k
  induction k with
  | zero =>
    intro j cs bh co ar st f hk hvj hr
    have e := hq.1 j (by omega)
    unfold chL
    exact ⟨⟨by omega, hvj⟩, cs, bh, co, ar, st, rfl, hr⟩
  | succ k ih =>
    intro j cs bh co ar st f hk hvj hr
    obtain ⟨r1, r2, r3, r4⟩ := hr
    unfold chL
    by_cases ht0 : tT (qc (I 83) n j) = true
    · have c : isT (qc (I 83) n j) := of_decide_eq_true ht0
      have hl := OQ_lt hq (c := qc (I 83) n j) (by omega) rfl
      rw [if_pos ht0]
      have hts := tp_s r2
      have k1 : Run PG (Call PG (d + 6)) 224 61 [(2, 82), (0, 1)] [] (HR I j 0 cs op sd0 0 bh co ar st, RF sp rt tt z.1, z) (0, 0) = Run PG (Call PG (d + 6)) 224 39 [(2, 82), (0, 1)] [] (HR I (j + 1) 0 cs op (sd0 + 1) 0 0 co ar (uc st sd0 (qc (I 83) n j)), RF sp rt tt z.1, z) (0, 0) := by
        refine P61.trans (bd_t (GO_push (d := d + 2) h (by omega) (by omega) ?_) ?_)
        · rw [hts]
          exact Or.inl ⟨c, ht⟩
        · exact (T_224_77 ..).trans (ci_f (by decide) rfl)
      have hs' := hs (j + 1) cs (sd0 + 1) co ar (uc st sd0 (qc (I 83) n j)) (by omega) (by omega) (trivial)
      cases hsub : sub (j + 1) with
      | inl e0 =>
        rw [hsub] at hs'
        exact q_tr (Q := PFl I sp rt tt z t co ar _) k1 hs'
      | inr w =>
        obtain ⟨j2, g⟩ := w
        rw [hsub] at hs'
        obtain ⟨hv1, cs', bh', co', ar', st', e8, ⟨s1, s2, s3, s4⟩⟩ := hs'
        have top : st' sd0 = qc (I 83) n j := (s2 sd0 (Nat.lt_succ_self _)).trans uc_s
        have k2 : Run PG (Call PG (d + 6)) 224 61 [(2, 82), (0, 1)] [] (HR I j2 0 cs' op (sd0 + 1) 0 bh' co' ar' st', RF sp rt tt z.1, z) (0, 0) = Run PG (Call PG (d + 6)) 224 61 [(2, 82), (0, 1)] [] (HR I j2 0 (cs' + 1) op sd0 0 bh' (uc co' (160 * t + cs') (st' sd0)) (uc ar' (160 * t + cs') 0) st', RF sp rt tt z.1, z) (0, 0) := by
          rw [P61, P61, GO_red (d := d + 2) h (by omega) (by omega) ?_]
          rw [top]
          exact Or.inl c
        have hk2 : RK n t p0 cs0 sd0 co0 ar0 st0 j2 (cs' + 1) (uc co' (160 * t + cs') (st' sd0)) (uc ar' (160 * t + cs') 0) st' (binF (qc (I 83) n j) f g) := by
          refine ⟨by omega, fun x hx => ?_, fun x hx => ?_, ?_⟩
          · rw [s2 x (by omega), uc_o (by omega), r2 x hx]
          · rw [uc_o (by omega), uc_o (by omega), (s3 x (by omega)).1, (s3 x (by omega)).2]
            exact r3 x hx
          · refine Cr_cl.2.2.1 (Cr_m r4 (fun x h1 h2 => ?_)) (Cr_m s4 (fun x h1 h2 => ⟨uc_o (by omega), uc_o (by omega)⟩)) (uc_s.trans top) (Or.inl c)
            show uc _ _ _ _ = _ ∧ uc _ _ _ _ = _
            rw [uc_o (by omega), uc_o (by omega), (s3 _ (by omega)).1, (s3 _ (by omega)).2]
            exact ⟨rfl, rfl⟩
        have ih' := ih j2 (cs' + 1) bh' (uc co' (160 * t + cs') (st' sd0)) (uc ar' (160 * t + cs') 0) st' (binF (qc (I 83) n j) f g) (by omega) hv1 hk2
        have ek := (k1.trans e8).trans k2
        dsimp only
        cases hc : chL (qc (I 83) n) tT sub k j2 (binF (qc (I 83) n j) f g) with
        | inl e0 =>
          rw [hc] at ih'
          exact q_tr (Q := PFl I sp rt tt z t co ar _) ek (PFl_m ih' (fun x hx => ⟨(uc_o (by omega)).trans (s3 x (by omega)).1, (uc_o (by omega)).trans (s3 x (by omega)).2⟩))
        | inr w3 =>
          obtain ⟨j3, g3⟩ := w3
          rw [hc] at ih'
          obtain ⟨v1, cs3, bh3, co3, ar3, st3, e9, hk3⟩ := ih'
          exact ⟨v1, cs3, bh3, co3, ar3, st3, ek.trans e9, hk3⟩
    · rw [if_neg ht0]
      have c : ¬ isT (qc (I 83) n j) := of_decide_eq_false (Bool.eq_false_iff.2 ht0)
      exact ⟨⟨c, hvj⟩, cs, bh, co, ar, st, rfl, r1, r2, r3, r4⟩
theorem R_P (h : RX I n t) {d : Nat} {op : Int} {sub : Nat → PR} (hs : RL I sp rt tt z n t (d + 6) op (fun _ => True) (fun _ => True) sub) : RL I sp rt tt z n t (d + 6) op (fun c => ¬ isT c) (fun c => ¬ isT c) (CHN (qc (I 83) n) tT sub) := by
  intro p cs sd co ar st hcs hp hw
  have hm := h.2.1
  have hs' := hs p cs sd co ar st hcs hp trivial
  unfold CHN
  cases hsub : sub p with
  | inl e0 =>
    rw [hsub] at hs'
    exact hs'
  | inr w =>
    obtain ⟨j, f⟩ := w
    rw [hsub] at hs'
    obtain ⟨hv1, cs', bh', co', ar', st', e8, hk⟩ := hs'
    have l := RLo_P h hs hcs hw 160 j cs' bh' co' ar' st' f (by omega) hv1 hk
    dsimp only
    cases hc : chL (qc (I 83) n) tT sub 160 j f with
    | inl e0 =>
      rw [hc] at l
      exact q_tr (Q := PFl I sp rt tt z t co ar _) e8 (PFl_m l (fun x hx => hk.2.2.1 x (by omega)))
    | inr w3 =>
      obtain ⟨j3, g3⟩ := w3
      rw [hc] at l
      obtain ⟨v1, cs3, bh3, co3, ar3, st3, e9, hk3⟩ := l
      exact ⟨v1.1, cs3, bh3, co3, ar3, st3, e8.trans e9, hk3⟩

theorem RLo_S (h : RX I n t) {d : Nat} {op : Int} {sub : Nat → PR} (hs : RL I sp rt tt z n t (d + 6) op (fun c => ¬ isT c) (fun c => ¬ isT c) sub) {p0 cs0 sd0 : Nat} {co0 ar0 st0 : Nat → Int} (h0 : cs0 + sd0 ≤ p0) (ht : ¬ isT (tp st0 sd0) ∧ ¬ isP (tp st0 sd0)) : ∀ (k j cs : Nat) (bh : Int) (co ar st : Nat → Int) (f : FM), n ≤ k + j → ¬ isT (qc (I 83) n j) → RK n t p0 cs0 sd0 co0 ar0 st0 j cs co ar st f → match chL (qc (I 83) n) tP sub k j f with
    | .inl e => PFl I sp rt tt z t co ar e (Run PG (Call PG (d + 6)) 224 61 [(2, 82), (0, 1)] [] (HR I j 0 cs op sd0 0 bh co ar st, RF sp rt tt z.1, z) (0, 0))
    | .inr (j2, g) => (¬ isP (qc (I 83) n j2) ∧ ¬ isT (qc (I 83) n j2)) ∧ ∃ (cs' : Nat) (bh' : Int) (co' ar' st' : Nat → Int), Run PG (Call PG (d + 6)) 224 61 [(2, 82), (0, 1)] [] (HR I j 0 cs op sd0 0 bh co ar st, RF sp rt tt z.1, z) (0, 0) = Run PG (Call PG (d + 6)) 224 61 [(2, 82), (0, 1)] [] (HR I j2 0 cs' op sd0 0 bh' co' ar' st', RF sp rt tt z.1, z) (0, 0) ∧ RK n t p0 cs0 sd0 co0 ar0 st0 j2 cs' co' ar' st' g := by
  have hq := qc_OQ (I 83) n
  have hm := h.2.1
  intro k
  induction k with
  | zero =>
    intro j cs bh co ar st f hk hvj hr
    have e := hq.1 j (by omega)
    unfold chL
    exact ⟨⟨by omega, hvj⟩, cs, bh, co, ar, st, rfl, hr⟩
  | succ k ih =>
    intro j cs bh co ar st f hk hvj hr
    obtain ⟨r1, r2, r3, r4⟩ := hr
    unfold chL
    by_cases ht0 : tP (qc (I 83) n j) = true
    · have c : isP (qc (I 83) n j) := of_decide_eq_true ht0
      have hl := OQ_lt hq (c := qc (I 83) n j) (by omega) rfl
      rw [if_pos ht0]
      have hts := tp_s r2
      have k1 : Run PG (Call PG (d + 6)) 224 61 [(2, 82), (0, 1)] [] (HR I j 0 cs op sd0 0 bh co ar st, RF sp rt tt z.1, z) (0, 0) = Run PG (Call PG (d + 6)) 224 39 [(2, 82), (0, 1)] [] (HR I (j + 1) 0 cs op (sd0 + 1) 0 0 co ar (uc st sd0 (qc (I 83) n j)), RF sp rt tt z.1, z) (0, 0) := by
        refine P61.trans (bd_t (GO_push (d := d + 2) h (by omega) (by omega) ?_) ?_)
        · rw [hts]
          exact Or.inr ⟨c, ht.1, ht.2⟩
        · exact (T_224_77 ..).trans (ci_f (by decide) rfl)
      have hs' := hs (j + 1) cs (sd0 + 1) co ar (uc st sd0 (qc (I 83) n j)) (by omega) (by omega) (by show ¬ isT (uc st sd0 (qc (I 83) n j) sd0); rw [uc_s]; omega)
      cases hsub : sub (j + 1) with
      | inl e0 =>
        rw [hsub] at hs'
        exact q_tr (Q := PFl I sp rt tt z t co ar _) k1 hs'
      | inr w =>
        obtain ⟨j2, g⟩ := w
        rw [hsub] at hs'
        obtain ⟨hv1, cs', bh', co', ar', st', e8, ⟨s1, s2, s3, s4⟩⟩ := hs'
        have top : st' sd0 = qc (I 83) n j := (s2 sd0 (Nat.lt_succ_self _)).trans uc_s
        have k2 : Run PG (Call PG (d + 6)) 224 61 [(2, 82), (0, 1)] [] (HR I j2 0 cs' op (sd0 + 1) 0 bh' co' ar' st', RF sp rt tt z.1, z) (0, 0) = Run PG (Call PG (d + 6)) 224 61 [(2, 82), (0, 1)] [] (HR I j2 0 (cs' + 1) op sd0 0 bh' (uc co' (160 * t + cs') (st' sd0)) (uc ar' (160 * t + cs') 0) st', RF sp rt tt z.1, z) (0, 0) := by
          rw [P61, P61, GO_red (d := d + 2) h (by omega) (by omega) ?_]
          rw [top]
          exact Or.inr ⟨c, hv1⟩
        have hk2 : RK n t p0 cs0 sd0 co0 ar0 st0 j2 (cs' + 1) (uc co' (160 * t + cs') (st' sd0)) (uc ar' (160 * t + cs') 0) st' (binF (qc (I 83) n j) f g) := by
          refine ⟨by omega, fun x hx => ?_, fun x hx => ?_, ?_⟩
          · rw [s2 x (by omega), uc_o (by omega), r2 x hx]
          · rw [uc_o (by omega), uc_o (by omega), (s3 x (by omega)).1, (s3 x (by omega)).2]
            exact r3 x hx
          · refine Cr_cl.2.2.1 (Cr_m r4 (fun x h1 h2 => ?_)) (Cr_m s4 (fun x h1 h2 => ⟨uc_o (by omega), uc_o (by omega)⟩)) (uc_s.trans top) (Or.inr (Or.inl c))
            show uc _ _ _ _ = _ ∧ uc _ _ _ _ = _
            rw [uc_o (by omega), uc_o (by omega), (s3 _ (by omega)).1, (s3 _ (by omega)).2]
            exact ⟨rfl, rfl⟩
        have ih' := ih j2 (cs' + 1) bh' (uc co' (160 * t + cs') (st' sd0)) (uc ar' (160 * t + cs') 0) st' (binF (qc (I 83) n j) f g) (by omega) hv1 hk2
        have ek := (k1.trans e8).trans k2
        dsimp only
        cases hc : chL (qc (I 83) n) tP sub k j2 (binF (qc (I 83) n j) f g) with
        | inl e0 =>
          rw [hc] at ih'
          exact q_tr (Q := PFl I sp rt tt z t co ar _) ek (PFl_m ih' (fun x hx => ⟨(uc_o (by omega)).trans (s3 x (by omega)).1, (uc_o (by omega)).trans (s3 x (by omega)).2⟩))
        | inr w3 =>
          obtain ⟨j3, g3⟩ := w3
          rw [hc] at ih'
          obtain ⟨v1, cs3, bh3, co3, ar3, st3, e9, hk3⟩ := ih'
          exact ⟨v1, cs3, bh3, co3, ar3, st3, ek.trans e9, hk3⟩
    · rw [if_neg ht0]
      have c : ¬ isP (qc (I 83) n j) := of_decide_eq_false (Bool.eq_false_iff.2 ht0)
      exact ⟨⟨c, hvj⟩, cs, bh, co, ar, st, rfl, r1, r2, r3, r4⟩
theorem R_S (h : RX I n t) {d : Nat} {op : Int} {sub : Nat → PR} (hs : RL I sp rt tt z n t (d + 6) op (fun c => ¬ isT c) (fun c => ¬ isT c) sub) : RL I sp rt tt z n t (d + 6) op (fun c => ¬ isT c ∧ ¬ isP c) (fun c => ¬ isT c ∧ ¬ isP c) (CHN (qc (I 83) n) tP sub) := by
  intro p cs sd co ar st hcs hp hw
  have hm := h.2.1
  have hs' := hs p cs sd co ar st hcs hp hw.1
  unfold CHN
  cases hsub : sub p with
  | inl e0 =>
    rw [hsub] at hs'
    exact hs'
  | inr w =>
    obtain ⟨j, f⟩ := w
    rw [hsub] at hs'
    obtain ⟨hv1, cs', bh', co', ar', st', e8, hk⟩ := hs'
    have l := RLo_S h hs hcs hw 160 j cs' bh' co' ar' st' f (by omega) hv1 hk
    dsimp only
    cases hc : chL (qc (I 83) n) tP sub 160 j f with
    | inl e0 =>
      rw [hc] at l
      exact q_tr (Q := PFl I sp rt tt z t co ar _) e8 (PFl_m l (fun x hx => hk.2.2.1 x (by omega)))
    | inr w3 =>
      obtain ⟨j3, g3⟩ := w3
      rw [hc] at l
      obtain ⟨v1, cs3, bh3, co3, ar3, st3, e9, hk3⟩ := l
      exact ⟨⟨v1.2, v1.1⟩, cs3, bh3, co3, ar3, st3, e8.trans e9, hk3⟩

theorem R_SUM (h : RX I n t) {d : Nat} : ∀ (l : Nat) (op : Int), op = 6 - (l : Int) ∧ l ≤ 5 → RL I sp rt tt z n t (d + 6) op (fun c => ¬ isT c ∧ ¬ isP c) (fun c => ¬ isT c ∧ ¬ isP c) (SUM (qc (I 83) n) l) := by
  intro l
  induction l with
  | zero =>
    intro op ho
    exact R_S h (R_P h (R_FACT h (W := fun _ => True) (V := fun c => ¬ isT c ∧ ¬ isP c) ho trivial (fun _ q => q) (Or.inl rfl)))
  | succ l ih =>
    intro op ho
    exact R_S h (R_P h (R_FACT h (W := fun c => ¬ isT c ∧ ¬ isP c) (V := fun c => ¬ isT c ∧ ¬ isP c) ho (by decide) (fun _ q => q) (Or.inr (ih (op + 1) (by omega)))))
end RS1

