/-! feed, beyond -/
abbrev TP : Type := (Nat → Int) × Int
def F4 (v : Int) (k : Nat) (t : TP) : TP := (ud t.1 t.2.toNat (Int.bmod (Int.bmod (shr32 v (24 - 8 * (k : Int))) 256) 256), t.2 + 1)
def TH (I : Nat → Nat → Int) (t : TP) : Nat → Nat → Int := pc (up2 I 0 2 t.2) 1 t.1
def TR (I : Nat → Nat → Int) (t : TP) : Nat → Nat → Int := pc (up2 I 82 1 t.2) 83 t.1
theorem TH_up {I : Nat → Nat → Int} {t : TP} {k : Nat} {x y : Int} : up2 (up2 (TH I t) 1 k x) 0 2 y = TH I (ud t.1 k x, y) := by
  unfold TH
  rw [up2_pc, up2_pcn (by decide), up2_up2]
theorem TR_up {I : Nat → Nat → Int} {t : TP} {k : Nat} {x y : Int} : up2 (up2 (TR I t) 83 k x) 82 1 y = TR I (ud t.1 k x, y) := by
  unfold TR
  rw [up2_pc, up2_pcn (by decide), up2_up2]
theorem TH_self {I : Nat → Nat → Int} : TH I (I 1, I 0 2) = I := by
  unfold TH
  rw [show up2 I 0 2 (I 1, I 0 2).2 = I from up2_id]
  exact pc_self
theorem TR_self {I : Nat → Nat → Int} : TR I (I 83, I 82 1) = I := by
  unfold TR
  rw [show up2 I 82 1 (I 83, I 82 1).2 = I from up2_id]
  exact pc_self
theorem F4_2 {v : Int} {t : TP} : ∀ k, (itr (F4 v) k t).2 = t.2 + k
  | 0 => (Int.add_zero _).symm
  | k + 1 => by
    show (itr (F4 v) k t).2 + 1 = _
    rw [F4_2 k]; omega
/-- bytes -/
def BYT (t : TP) : Prop := ∀ j, -128 ≤ t.1 j ∧ t.1 j ≤ 127
theorem BYT_i {v : Int} : ∀ (k : Nat) {t : TP}, BYT t → BYT (itr (F4 v) k t)
  | 0, _, h => h
  | k + 1, t, h => fun j => by
    have ih := BYT_i (v := v) k h j
    show -128 ≤ (if j = (itr (F4 v) k t).2.toNat then Int.bmod (Int.bmod (shr32 v (24 - 8 * (k : Int))) 256) 256 else (itr (F4 v) k t).1 j) ∧ (if j = (itr (F4 v) k t).2.toNat then Int.bmod (Int.bmod (shr32 v (24 - 8 * (k : Int))) 256) 256 else (itr (F4 v) k t).1 j) ≤ 127
    by_cases c : j = (itr (F4 v) k t).2.toNat
    · rw [if_pos c]
      generalize Int.bmod (shr32 v (24 - 8 * (k : Int))) 256 = w
      rw [Int.bmod_def]
      split <;> omega
    · rw [if_neg c]
      exact ih
section FE
variable {d : Nat} {I : Nat → Nat → Int} {sp rt : Nat} {tt : Nat → Nat} {z : Zs}
theorem S_22 {v : Int} {t : TP} (h : 0 ≤ t.2 ∧ t.2 ≤ 156) : Call PG (d + 1) 22 [(2, 0), (0, v)] (TH I t, RF sp rt tt z.1, z) = some (none, (TH I (itr (F4 v) 4 t), RF sp rt tt z.1, z)) := by
  refine (K_22 ..).trans ?_
  refine (T_22_0 ..).trans ?_
  refine loop_p (F4 v) (fun (k : Nat) (s : TP) => Run PG (Call PG d) 22 3 [(2, 0), (0, v), (0, 24 - 8 * (k : Int))] [] (TH I s, RF sp rt tt z.1, z) (0, 0) = some (none, (TH I (itr (F4 v) 4 t), RF sp rt tt z.1, z))) 4 t ?_ ?_
  · intro k s hk hs ih
    have h2 := F4_2 (v := v) (t := t) k
    rw [← hs] at h2
    refine (T_22_3 ..).trans ?_
    refine ci_f (by omega) ?_
    refine ci_t (show s.2 < 160 by omega) ?_
    refine ci_t (show 0 ≤ s.2 ∧ s.2 < 160 by omega) ?_
    rw [show TH I s 0 2 = s.2 from rfl, w32_of (x := s.2 + 1) (by omega) (by omega), TH_up, w32_of (by omega) (by omega), show 24 - 8 * (k : Int) + -8 = 24 - 8 * ((k + 1 : Nat) : Int) by omega]
    exact ih
  · refine (T_22_3 ..).trans ?_
    exact ci_t (by omega) rfl
theorem S_215 {v : Int} {t : TP} (h : 0 ≤ t.2 ∧ t.2 ≤ 156) : Call PG (d + 1) 215 [(2, 82), (0, v)] (TR I t, RF sp rt tt z.1, z) = some (none, (TR I (itr (F4 v) 4 t), RF sp rt tt z.1, z)) := by
  refine (K_215 ..).trans ?_
  refine (T_215_0 ..).trans ?_
  refine loop_p (F4 v) (fun (k : Nat) (s : TP) => Run PG (Call PG d) 215 3 [(2, 82), (0, v), (0, 24 - 8 * (k : Int))] [] (TR I s, RF sp rt tt z.1, z) (0, 0) = some (none, (TR I (itr (F4 v) 4 t), RF sp rt tt z.1, z))) 4 t ?_ ?_
  · intro k s hk hs ih
    have h2 := F4_2 (v := v) (t := t) k
    rw [← hs] at h2
    refine (T_215_3 ..).trans ?_
    refine ci_f (by omega) ?_
    refine ci_t (show 0 ≤ s.2 ∧ s.2 < 160 by omega) ?_
    rw [show TR I s 82 1 = s.2 from rfl, w32_of (x := s.2 + 1) (by omega) (by omega), TR_up, w32_of (by omega) (by omega), show 24 - 8 * (k : Int) + -8 = 24 - 8 * ((k + 1 : Nat) : Int) by omega]
    exact ih
  · refine (T_215_3 ..).trans ?_
    exact ci_t (by omega) rfl
def F20 (a b c e f : Int) (t : TP) : TP := itr (F4 f) 4 (itr (F4 e) 4 (itr (F4 c) 4 (itr (F4 b) 4 (itr (F4 a) 4 t))))
theorem o_feed (a b c e f : Int) (hh : InvS I) : OpR 21 214 [(0, a), (0, b), (0, c), (0, e), (0, f)] I sp rt tt z := by
  have t1 := hh.1.2.1
  have e83 : I 83 = I 1 := funext hh.1.2.2.1
  by_cases h : I 0 2 ≤ 140
  · obtain ⟨t, ht⟩ : ∃ t : TP, t = (I 1, I 0 2) := ⟨_, rfl⟩
    have h0 : t.2 = I 0 2 := by rw [ht]
    have n1 := F4_2 (v := a) (t := t) 4
    have n2 := F4_2 (v := b) (t := itr (F4 a) 4 t) 4
    have n3 := F4_2 (v := c) (t := itr (F4 b) 4 (itr (F4 a) 4 t)) 4
    have n4 := F4_2 (v := e) (t := itr (F4 c) 4 (itr (F4 b) 4 (itr (F4 a) 4 t))) 4
    have n5 : (F20 a b c e f t).2 = _ := F4_2 (v := f) (t := itr (F4 e) 4 (itr (F4 c) 4 (itr (F4 b) 4 (itr (F4 a) 4 t)))) 4
    have hI : TH I t = I := by rw [ht]; exact TH_self
    have hv : (F20 a b c e f t).2 = I 0 2 + 20 := by omega
    have hc : Call PG 300 21 [(2, 0), (0, a), (0, b), (0, c), (0, e), (0, f)] (TH I t, RF sp rt tt z.1, z) = some (some (0, I 0 2 + 20), (TH I (F20 a b c e f t), RF sp rt tt z.1, z)) := by
      refine (K_21 ..).trans ?_
      refine (T_21_0 ..).trans ?_
      rw [show TH I t 0 2 = t.2 from rfl, w32_of (x := t.2 + 20) (by omega) (by omega)]
      refine ci_t (by omega) ?_
      refine bd_t (S_22 (by omega)) ?_
      refine (T_21_20 ..).trans ?_
      refine bd_t (S_22 (by omega)) ?_
      refine (T_21_25 ..).trans ?_
      refine bd_t (S_22 (by omega)) ?_
      refine (T_21_30 ..).trans ?_
      refine bd_t (S_22 (by omega)) ?_
      refine (T_21_36 ..).trans ?_
      refine bd_t (S_22 (by omega)) ?_
      refine (T_21_42 ..).trans ?_
      exact eqv hv
    rw [hI] at hc
    have hJ : TR (TH I (F20 a b c e f t)) t = TH I (F20 a b c e f t) := by
      have : (TH I (F20 a b c e f t) 83, TH I (F20 a b c e f t) 82 1) = t := by
        rw [show TH I (F20 a b c e f t) 83 = I 83 from rfl, show TH I (F20 a b c e f t) 82 1 = I 82 1 from rfl, e83, t1.1, ht]
      rw [← this]
      rw [this]
      have h2 := TR_self (I := TH I (F20 a b c e f t))
      rw [this] at h2
      exact h2
    have hm : Call PG 300 214 [(2, 82), (0, a), (0, b), (0, c), (0, e), (0, f)] (TR (TH I (F20 a b c e f t)) t, RF sp rt tt z.1, z) = some (some (0, I 0 2 + 20), (TR (TH I (F20 a b c e f t)) (F20 a b c e f t), RF sp rt tt z.1, z)) := by
      refine (K_214 ..).trans ?_
      refine (T_214_0 ..).trans ?_
      rw [show TR (TH I (F20 a b c e f t)) t 82 1 = t.2 from rfl, w32_of (x := t.2 + 20) (by omega) (by omega)]
      refine ci_t (by omega) ?_
      refine bd_t (S_215 (by omega)) ?_
      refine (T_214_20 ..).trans ?_
      refine bd_t (S_215 (by omega)) ?_
      refine (T_214_25 ..).trans ?_
      refine bd_t (S_215 (by omega)) ?_
      refine (T_214_30 ..).trans ?_
      refine bd_t (S_215 (by omega)) ?_
      refine (T_214_36 ..).trans ?_
      refine bd_t (S_215 (by omega)) ?_
      refine (T_214_42 ..).trans ?_
      exact eqv hv
    rw [hJ] at hm
    refine ⟨I 0 2 + 20, _, _, hc, hm, ?_, ?_⟩
    · obtain ⟨hT, hP, hC, hW, hL, hI2, hS⟩ := hh
      have hr : BYT t := by rw [ht]; exact hT.2.2.2
      refine ⟨⟨hT.1, ?_, fun j => rfl, BYT_i 4 (BYT_i 4 (BYT_i 4 (BYT_i 4 (BYT_i 4 hr))))⟩, hP, hC, hW, hL, hI2, hS⟩
      show (F20 a b c e f t).2 = (F20 a b c e f t).2 ∧ 0 ≤ (F20 a b c e f t).2 ∧ (F20 a b c e f t).2 ≤ 160
      omega
    · funext x j
      unfold rs
      by_cases q : RS x j = true
      · rw [if_pos q, if_pos q]
        have hx : ¬ x = 0 ∧ ¬ x = 1 ∧ ¬ x = 83 ∧ ¬ (x = 82 ∧ j = 1) := by
          refine ⟨?_, ?_, ?_, ?_⟩
          · intro w; subst w; cases q
          · intro w; subst w; cases q
          · intro w; subst w; cases q
          · intro w; rw [w.1, w.2] at q; cases q
        unfold TR TH
        rw [pc_ne hx.2.2.1, up2_def, if_neg hx.2.2.2, pc_ne hx.2.1, up2_ne hx.1]
      · rw [if_neg q, if_neg q]
  · refine ⟨-1, I, I, ?_, ?_, hh, rfl⟩
    · refine (K_21 ..).trans ?_
      refine (T_21_0 ..).trans ?_
      rw [w32_of (by omega) (by omega)]
      exact ci_f (by omega) rfl
    · refine (K_214 ..).trans ?_
      refine (T_214_0 ..).trans ?_
      rw [w32_of (by omega) (by omega)]
      exact ci_f (by omega) rfl
abbrev B3 : Type := Int × Int × Int
def BY (SM ME FA : Nat → Int) (s : Int) (p : Nat) (t : B3) : B3 := (if SM p = s then t.1 + FA p else t.1, if SM p = s then t.2.1 + ME p else t.2.1, t.2.2 + ME p)
theorem BY_b {SM ME FA : Nat → Int} {s : Int} (hm : ∀ j, 0 ≤ ME j ∧ ME j ≤ 2000) (hf : ∀ j, 0 ≤ FA j ∧ FA j ≤ 200) : ∀ k : Nat, (0 ≤ (itr (BY SM ME FA s) k (0, 0, 0)).1 ∧ (itr (BY SM ME FA s) k (0, 0, 0)).1 ≤ 200 * k) ∧ (0 ≤ (itr (BY SM ME FA s) k (0, 0, 0)).2.1 ∧ (itr (BY SM ME FA s) k (0, 0, 0)).2.1 ≤ 2000 * k) ∧ (0 ≤ (itr (BY SM ME FA s) k (0, 0, 0)).2.2 ∧ (itr (BY SM ME FA s) k (0, 0, 0)).2.2 ≤ 2000 * k)
  | 0 => ⟨⟨Int.le_refl _, Int.le_refl _⟩, ⟨Int.le_refl _, Int.le_refl _⟩, ⟨Int.le_refl _, Int.le_refl _⟩⟩
  | k + 1 => by
    have ih := BY_b (SM := SM) (s := s) hm hf k
    have h1 := hm k
    have h2 := hf k
    show (0 ≤ (if SM k = s then (itr (BY SM ME FA s) k (0, 0, 0)).1 + FA k else (itr (BY SM ME FA s) k (0, 0, 0)).1) ∧ _) ∧ (0 ≤ (if SM k = s then (itr (BY SM ME FA s) k (0, 0, 0)).2.1 + ME k else (itr (BY SM ME FA s) k (0, 0, 0)).2.1) ∧ _) ∧ 0 ≤ (itr (BY SM ME FA s) k (0, 0, 0)).2.2 + ME k ∧ _
    show (_ ∧ (if SM k = s then (itr (BY SM ME FA s) k (0, 0, 0)).1 + FA k else (itr (BY SM ME FA s) k (0, 0, 0)).1) ≤ _) ∧ (_ ∧ (if SM k = s then (itr (BY SM ME FA s) k (0, 0, 0)).2.1 + ME k else (itr (BY SM ME FA s) k (0, 0, 0)).2.1) ≤ _) ∧ _ ∧ (itr (BY SM ME FA s) k (0, 0, 0)).2.2 + ME k ≤ _
    generalize itr (BY SM ME FA s) k (0, 0, 0) = t at *
    by_cases c : SM k = s
    · simp only [if_pos c]; omega
    · simp only [if_neg c]; omega
/-- what both ask in the end -/
def BEY (F : Int) (t : B3) : Prop := 0 < w64 (w64 (t.1 * t.2.2) - w64 (F * t.2.1)) ∧ w64 (w64 (4 * w64 (F * t.2.1)) * t.2.2) < w64 (w64 (w64 (t.1 * t.2.2) - w64 (F * t.2.1)) * w64 (w64 (t.1 * t.2.2) - w64 (F * t.2.1)))
theorem o_beyond (s : Int) (hh : InvS I) : OpR 179 326 [(0, s)] I sp rt tt z := by
  have hP := hh.2.1
  have p1 := hP.1
  have p2 := hP.2.1
  have e84 : I 84 = I 3 := funext hP.2.2.1.1
  have e87 : I 87 = I 6 := funext hP.2.2.1.2.2.2.1
  have e89 : I 89 = I 8 := funext hP.2.2.1.2.2.2.2.2
  by_cases c : 0 ≤ s ∧ s ≤ 7
  · obtain ⟨n, hN⟩ := Int.eq_ofNat_of_zero_le p1.2.1
    have hm : ∀ j, 0 ≤ I 6 j ∧ I 6 j ≤ 2000 := hP.2.2.2.2.2.2.1
    have hf : ∀ j, 0 ≤ I 8 j ∧ I 8 j ≤ 200 := fun j => by have := hP.2.2.2.2.2.2.2.2 j; omega
    have hb := BY_b (SM := I 3) (s := s) hm hf
    obtain ⟨T, hT⟩ : ∃ T : B3, T = itr (BY (I 3) (I 6) (I 8) s) n (0, 0, 0) := ⟨_, rfl⟩
    have hbT := hb n
    rw [← hT] at hbT
    have h3 : I 82 3 = n := by omega
    have h4 : w64 (w64 (w64 (4 * I 82 16) * T.2.1) * T.2.2) = w64 (w64 (4 * w64 (I 2 7 * T.2.1)) * T.2.2) := by
      have q1 := Int.mul_nonneg (show 0 ≤ I 2 7 by omega) hbT.2.1.1
      have q2 : I 2 7 * T.2.1 ≤ 200 * 24000 := Int.le_trans (Int.mul_le_mul_of_nonneg_right p2.2.2 hbT.2.1.1) (Int.mul_le_mul_of_nonneg_left (show T.2.1 ≤ 24000 by omega) (by decide))
      rw [p2.1, w64_of (x := 4 * I 2 7) (by omega) (by omega), w64_of (x := I 2 7 * T.2.1) (by omega) (by omega), Int.mul_assoc]
    have hcl : ∀ v : Int, (v = 1 ∧ BEY (I 2 7) T ∨ v = 0 ∧ ¬ BEY (I 2 7) T) → Call PG 299 180 [(2, 2), (0, s)] (I, RF sp rt tt z.1, z) = some (some (0, v), (I, RF sp rt tt z.1, z)) := by
      intro v hv
      refine (K_180 ..).trans ?_
      refine (T_180_0 ..).trans ?_
      refine loop_p (BY (I 3) (I 6) (I 8) s) (fun (p : Nat) (t : B3) => Run PG (Call PG 298) 180 11 [(2, 2), (0, s), (1, t.1), (9, 0), (1, t.2.1), (9, 0), (1, t.2.2), (9, 0), (0, (p : Int)), (9, 0), (9, 0), (9, 0)] [] (I, RF sp rt tt z.1, z) (0, 0) = some (some (0, v), (I, RF sp rt tt z.1, z))) n (0, 0, 0) ?_ ?_
      · intro p t hp ht ih
        have b := hb p
        rw [← ht] at b
        have b1 := hm p
        have b2 := hf p
        have hp12 : 0 ≤ (p : Int) ∧ (p : Int) < 12 := by omega
        refine (T_180_11 ..).trans ?_
        refine ci_t (by omega) ?_
        refine ci_t hp12 ?_
        refine ci_t hp12 ?_
        rw [Int.toNat_natCast, ws_n (by omega), w64_of (x := t.2.2 + I 6 p) (by omega) (by omega)]
        by_cases cs : I 3 p = s
        · refine ci_t cs ?_
          refine ci_t hp12 ?_
          refine ci_t hp12 ?_
          rw [w64_of (x := t.1 + I 8 p) (by omega) (by omega), w64_of (x := t.2.1 + I 6 p) (by omega) (by omega)]
          have e : BY (I 3) (I 6) (I 8) s p t = (t.1 + I 8 p, t.2.1 + I 6 p, t.2.2 + I 6 p) := by unfold BY; rw [if_pos cs, if_pos cs]
          rw [e] at ih
          exact ih
        · refine ci_f cs ?_
          have e : BY (I 3) (I 6) (I 8) s p t = (t.1, t.2.1, t.2.2 + I 6 p) := by unfold BY; rw [if_neg cs, if_neg cs]
          rw [e] at ih
          exact ih
      · rw [← hT]
        refine (T_180_11 ..).trans ?_
        refine ci_f (by omega) ?_
        simp only [lcm_le]
        by_cases b1 : 0 < w64 (w64 (T.1 * T.2.2) - w64 (I 2 7 * T.2.1))
        · refine ci_f (Int.not_le.mpr b1) ?_
          by_cases b2 : w64 (w64 (4 * w64 (I 2 7 * T.2.1)) * T.2.2) < w64 (w64 (w64 (T.1 * T.2.2) - w64 (I 2 7 * T.2.1)) * w64 (w64 (T.1 * T.2.2) - w64 (I 2 7 * T.2.1)))
          · refine ci_f (Int.not_le.mpr b2) ?_
            rcases hv with ⟨q, -⟩ | ⟨-, q⟩
            · exact eqv q.symm
            · exact absurd ⟨b1, b2⟩ q
          · refine ci_t (Int.not_lt.mp b2) ?_
            rcases hv with ⟨-, q⟩ | ⟨q, -⟩
            · exact absurd q.2 b2
            · exact eqv q.symm
        · refine ci_t (Int.not_lt.mp b1) ?_
          rcases hv with ⟨-, q⟩ | ⟨q, -⟩
          · exact absurd q.1 b1
          · exact eqv q.symm
    have hrf : ∀ v : Int, (v = 1 ∧ BEY (I 2 7) T ∨ v = 0 ∧ ¬ BEY (I 2 7) T) → Call PG 300 326 [(2, 82), (0, s)] (I, RF sp rt tt z.1, z) = some (some (0, v), (I, RF sp rt tt z.1, z)) := by
      intro v hv
      refine (K_326 ..).trans ?_
      refine (T_326_0 ..).trans ?_
      refine bd_t S_209 ?_
      refine (T_326_9 ..).trans ?_
      refine ci_bf c ?_
      refine loop_p (BY (I 3) (I 6) (I 8) s) (fun (p : Nat) (t : B3) => Run PG (Call PG 299) 326 25 [(2, 82), (0, s), (1, t.2.2), (9, 0), (1, t.2.1), (9, 0), (1, t.1), (9, 0), (0, (p : Int)), (9, 0)] [] (I, RF sp rt tt z.1, z) (0, 0) = some (some (0, v), (I, RF sp rt tt z.1, z))) n (0, 0, 0) ?_ ?_
      · intro p t hp ht ih
        have b := hb p
        rw [← ht] at b
        have b1 := hm p
        have b2 := hf p
        have hp12 : 0 ≤ (p : Int) ∧ (p : Int) < 12 := by omega
        refine (T_326_25 ..).trans ?_
        refine ci_t (by omega) ?_
        refine ci_t hp12 ?_
        refine (T_326_45 ..).trans ?_
        refine ci_t hp12 ?_
        rw [Int.toNat_natCast, e84, e87, w64_of (x := t.2.2 + I 6 p) (by omega) (by omega)]
        by_cases cs : I 3 p = s
        · refine ci_t cs ?_
          refine ci_t hp12 ?_
          refine (T_326_73 ..).trans ?_
          refine ci_t hp12 ?_
          rw [Int.toNat_natCast, e84, e89]
          refine ci_t cs ?_
          refine ci_t hp12 ?_
          rw [ws_n (by omega), w64_of (x := t.1 + I 8 p) (by omega) (by omega), w64_of (x := t.2.1 + I 6 p) (by omega) (by omega)]
          have e : BY (I 3) (I 6) (I 8) s p t = (t.1 + I 8 p, t.2.1 + I 6 p, t.2.2 + I 6 p) := by unfold BY; rw [if_pos cs, if_pos cs]
          rw [e] at ih
          exact ih
        · refine ci_f cs ?_
          refine (T_326_73 ..).trans ?_
          refine ci_t hp12 ?_
          rw [Int.toNat_natCast, e84]
          refine ci_f cs ?_
          rw [ws_n (by omega), Int.add_zero, Int.add_zero, w64_of (x := t.1) (by omega) (by omega), w64_of (x := t.2.1) (by omega) (by omega)]
          have e : BY (I 3) (I 6) (I 8) s p t = (t.1, t.2.1, t.2.2 + I 6 p) := by unfold BY; rw [if_neg cs, if_neg cs]
          rw [e] at ih
          exact ih
      · rw [← hT]
        refine (T_326_25 ..).trans ?_
        refine ci_f (by omega) ?_
        refine (T_326_107 ..).trans ?_
        rw [p2.1]
        simp only [lcm_le]
        by_cases b1 : 0 < w64 (w64 (T.1 * T.2.2) - w64 (I 2 7 * T.2.1))
        · refine ci_f (Int.not_le.mpr b1) ?_
          refine (T_326_129 ..).trans ?_
          rw [h4]
          simp only [lcm_le]
          by_cases b2 : w64 (w64 (4 * w64 (I 2 7 * T.2.1)) * T.2.2) < w64 (w64 (w64 (T.1 * T.2.2) - w64 (I 2 7 * T.2.1)) * w64 (w64 (T.1 * T.2.2) - w64 (I 2 7 * T.2.1)))
          · refine ci_f (Int.not_le.mpr b2) ?_
            rcases hv with ⟨q, -⟩ | ⟨-, q⟩
            · exact eqv q.symm
            · exact absurd ⟨b1, b2⟩ q
          · refine ci_t (Int.not_lt.mp b2) ?_
            rcases hv with ⟨-, q⟩ | ⟨q, -⟩
            · exact absurd q.2 b2
            · exact eqv q.symm
        · refine ci_t (Int.not_lt.mp b1) ?_
          rcases hv with ⟨-, q⟩ | ⟨q, -⟩
          · exact absurd q.1 b1
          · exact eqv q.symm
    have h179 : ∀ v, (v = 1 ∧ BEY (I 2 7) T ∨ v = 0 ∧ ¬ BEY (I 2 7) T) → Call PG 300 179 [(2, 0), (0, s)] (I, RF sp rt tt z.1, z) = some (some (0, v), (I, RF sp rt tt z.1, z)) := by
      intro v hv
      refine (K_179 ..).trans ?_
      have hc := hcl v hv
      repeat' (first | refine bd_t hc ?_ | refine ci_bt (by omega) ?_ | refine ci_bf (by omega) ?_ | refine ite_b01 ?_ | refine ci_b (fun _ => ?_) (fun _ => ?_) | refine ci_t (by omega) ?_ | refine ci_f (by omega) ?_ | refine ite_t (by omega) ?_ | refine ite_f (by omega) ?_ | refine bd_t (S_13) ?_ | refine (T_179_0 ..).trans ?_ | refine (T_179_7 ..).trans ?_ | refine (T_179_20 ..).trans ?_ | refine ci_c (fun _ => ?_) (fun _ => ?_))
      all_goals first | (exfalso; omega) | (refine eqv ?_; omega)
    by_cases b : BEY (I 2 7) T
    · exact ⟨1, I, I, h179 1 (Or.inl ⟨rfl, b⟩), hrf 1 (Or.inl ⟨rfl, b⟩), hh, rfl⟩
    · exact ⟨0, I, I, h179 0 (Or.inr ⟨rfl, b⟩), hrf 0 (Or.inr ⟨rfl, b⟩), hh, rfl⟩
  · refine ⟨-1, I, I, ?_, ?_, hh, rfl⟩
    · refine (K_179 ..).trans ?_
      repeat' (first | refine ci_bt (by omega) ?_ | refine ci_bf (by omega) ?_ | refine ite_b01 ?_ | refine ci_b (fun _ => ?_) (fun _ => ?_) | refine ci_t (by omega) ?_ | refine ci_f (by omega) ?_ | refine ite_t (by omega) ?_ | refine ite_f (by omega) ?_ | refine bd_t (S_13) ?_ | refine (T_179_0 ..).trans ?_ | refine (T_179_7 ..).trans ?_ | refine (T_179_20 ..).trans ?_ | refine ci_c (fun _ => ?_) (fun _ => ?_))
      all_goals first | rfl | (exfalso; omega)
    · refine (K_326 ..).trans ?_
      repeat' (first | simp only [lcm_lt, lcm_le, lcm_eq] | refine ci_bt (by omega) ?_ | refine ci_bf (by omega) ?_ | refine ite_b01 ?_ | refine ci_b (fun _ => ?_) (fun _ => ?_) | refine ci_t (by omega) ?_ | refine ci_f (by omega) ?_ | refine ite_t (by omega) ?_ | refine ite_f (by omega) ?_ | refine bd_t (S_209) ?_ | refine (T_326_0 ..).trans ?_ | refine (T_326_9 ..).trans ?_ | refine (T_326_45 ..).trans ?_ | refine (T_326_73 ..).trans ?_ | refine (T_326_107 ..).trans ?_ | refine (T_326_129 ..).trans ?_ | refine ci_c (fun _ => ?_) (fun _ => ?_))
      all_goals first | rfl | (exfalso; omega)
end FE

