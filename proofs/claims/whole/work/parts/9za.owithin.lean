/-! within: both answer alike, the end -/
/-- a law's text that stands against text i -/
def ODT (I : Nat → Nat → Int) (day : Int) (i k : Nat) : Prop := I 94 k = -1 ∧ (I 95 k ≤ day ∧ day ≤ I 96 k) ∧ ∃ a b : Nat, (a : Int) < I 97 i ∧ (b : Int) < I 97 k ∧ ODD I i a k b
section WJ0
variable {d : Nat} {I : Nat → Nat → Int} {sp rt : Nat} {tt : Nat → Nat} {z : Zs} {c L : Nat}
theorem S_96 (h : TV I tt z c L) {i i' m m' : Nat} (hi : i < c) (hi' : i' < c) (hm : TXf I L i m) (hm' : TXf I L i' m') : ANS (Call PG (d + 2) 96 [(2, ((tc i : Nat) : Int)), (2, ((tc i' : Nat) : Int))] (I, RF sp rt tt z.1, z)) (∃ a b : Nat, (a : Int) < I 97 i ∧ (b : Int) < I 97 i' ∧ ODD I i a i' b) (I, RF sp rt tt z.1, z) := by
  have e := hm.2.1.2
  have e' := hm'.2.1.2
  refine ANS_t ((K_96 ..).trans (T_96_0 ..)) (ANS_i (L_96a (d := d) (sp := sp) (rt := rt) h hi hi' hm hm' m 0 (9, 0) (9, 0) dl9 dl9 (Nat.zero_add _)) ⟨fun ⟨a, b, _, q2, q3, q4⟩ => ⟨a, b, by omega, by omega, q4⟩, fun ⟨a, b, q2, q3, q4⟩ => ⟨a, b, Nat.zero_le _, by omega, by omega, q4⟩⟩)
theorem L_95 (h : TV I tt z c L) {i : Nat} (hi : i < c) {day : Int} : ∀ u k, k + u = c → ANS (Run PG (Call PG (d + 2)) 95 2 [(2, 9), (0, (i : Int)), (0, day), (0, (k : Int))] [] (I, RF sp rt tt z.1, z) (0, 0)) (∀ k', k ≤ k' → k' < c → ¬ ODT I day i k') (I, RF sp rt tt z.1, z) := by
  have hc := h.1
  have r11i := rf11 (sp := sp) (rt := rt) h hi
  obtain ⟨m, hm⟩ := h.2.2.2.2 i hi
  intro u
  induction u with
  | zero =>
    intro k hk
    refine ANS_y ((T_95_2 ..).trans ?_) (fun k' q1 q2 => absurd q2 (by omega))
    rw [h.2.1.1]
    exact ci_f (by omega) rfl
  | succ u ih =>
    intro k hk
    have hx := tcL (sp := sp) (rt := rt) h (show k < c by omega)
    have l1 : (LAY (tc k)).1 = 3 := by rw [hx.2.1]
    have r11 := rf11 (sp := sp) (rt := rt) h (show k < c by omega)
    obtain ⟨m', hm'⟩ := h.2.2.2.2 k (by omega)
    have NX : ¬ ODT I day i k → ANS (Run PG (Call PG (d + 2)) 95 2 [(2, 9), (0, (i : Int)), (0, day), (0, w32 ((k : Int) + 1))] [] (I, RF sp rt tt z.1, z) (0, 0)) (∀ k', k ≤ k' → k' < c → ¬ ODT I day i k') (I, RF sp rt tt z.1, z) := fun hn => by
      rw [w_n (by omega)]
      refine ANS_i (ih (k + 1) (by omega)) ⟨fun r k' q1 q2 => ?_, fun r k' q1 q2 => r k' (by omega) q2⟩
      by_cases e : k' = k
      · rw [e]; exact hn
      · exact r k' (by omega) q2
    have t2 := T_95_2 (Call PG (d + 2)) I sp rt tt z (i : Int) day (k : Int)
    rw [h.2.1.1, show ((k : Int)).toNat = k by omega] at t2
    by_cases c1 : I 94 k = -1
    · have s50 := S_50 (d := d + 1) (I := I) (sp := sp) (rt := rt) (tt := tt) (z := z) (t := tc k) (day := day) l1
      rw [← hm'.2.2.1.2.1, ← hm'.2.2.1.2.2] at s50
      have k1 : Run PG (Call PG (d + 2)) 95 2 [(2, 9), (0, (i : Int)), (0, day), (0, (k : Int))] [] (I, RF sp rt tt z.1, z) (0, 0) = Run PG (Call PG (d + 2)) 95 33 [(2, 9), (0, (i : Int)), (0, day), (0, (k : Int))] [(0, bz (I 95 k ≤ day ∧ day ≤ I 96 k))] (I, RF sp rt tt z.1, z) (0, 0) := by
        refine t2.trans (ci_t (by omega) (ci_t (by omega) (nn_t r11 (ite_t l1 ?_))))
        rw [← hm'.2.2.1.1]
        exact ci_t c1 (ci_t (by omega) (nn_t r11 (ite_t (decide_eq_true l1) (bd_t s50 rfl))))
      by_cases c2 : I 95 k ≤ day ∧ day ≤ I 96 k
      · rw [bz_t c2] at k1
        have a := S_96 (d := d) (sp := sp) (rt := rt) h hi (show k < c by omega) hm hm'
        have t33 := T_95_33 (Call PG (d + 2)) I sp rt tt z (i : Int) day (k : Int) 1
        rw [show ((k : Int)).toNat = k by omega, show ((i : Int)).toNat = i by omega] at t33
        by_cases r : ∃ a b : Nat, (a : Int) < I 97 i ∧ (b : Int) < I 97 k ∧ ODD I i a k b
        · exact ANS_n (k1.trans (t33.trans (ci_f (by decide) (ci_t (by omega) (nn_t r11i (ci_t (by omega) (nn_t r11 (bd_t (a.1 r) ((T_95_51 ..).trans (ci_f (by decide) rfl)))))))))) (fun w => w k (Nat.le_refl _) (by omega) ⟨c1, c2, r⟩)
        · exact ANS_t (k1.trans (t33.trans (ci_f (by decide) (ci_t (by omega) (nn_t r11i (ci_t (by omega) (nn_t r11 (bd_t (a.2 r) ((T_95_51 ..).trans (ci_t rfl rfl)))))))))) (NX (fun w => r w.2.2))
      · rw [bz_f c2] at k1
        exact ANS_t (k1.trans ((T_95_33 ..).trans (ci_t rfl rfl))) (NX (fun w => c2 w.2.1))
    · refine ANS_t (t2.trans (ci_t (by omega) (ci_t (by omega) (nn_t r11 (ite_t l1 ?_))))) (NX (fun w => c1 w.1))
      rw [← hm'.2.2.1.1]
      exact ci_f c1 rfl
/-- the reference: two cells at odds -/
theorem S_282 (h : TV I tt z c L) {i j m q i' j' m' : Nat} (hi : i < c) (hm : TXf I L i m) (hj : j < m) (hi' : i' < c) (hm' : TXf I L i' m') (hj' : j' < m') (hq : q = 12 * i' + j') : ANS (Call PG (d + 2) 282 [(2, 82), (0, ((12 * i + j : Nat) : Int)), (0, (q : Int))] (I, RF sp rt tt z.1, z)) (ODD I i j i' j') (I, RF sp rt tt z.1, z) := by
  have hc := h.1
  have m12 := hm.1
  have m12' := hm'.1
  subst hq
  have t0 := T_282_0 (Call PG (d + 1)) I sp rt tt z ((12 * i + j : Nat) : Int) ((12 * i' + j' : Nat) : Int)
  have t22 := T_282_22 (Call PG (d + 1)) I sp rt tt z ((12 * i + j : Nat) : Int) ((12 * i' + j' : Nat) : Int)
  rw [show (((12 * i + j : Nat) : Int)).toNat = 12 * i + j by omega, show (((12 * i' + j' : Nat) : Int)).toNat = 12 * i' + j' by omega] at t0 t22
  have k0 : ¬ (I 99 (12 * i + j) = 100 ∧ I 99 (12 * i' + j') = 110) → Call PG (d + 2) 282 [(2, 82), (0, ((12 * i + j : Nat) : Int)), (0, ((12 * i' + j' : Nat) : Int))] (I, RF sp rt tt z.1, z) = Run PG (Call PG (d + 1)) 282 22 [(2, 82), (0, ((12 * i + j : Nat) : Int)), (0, ((12 * i' + j' : Nat) : Int)), (9, 0)] [] (I, RF sp rt tt z.1, z) (0, 0) := fun r => by
    refine (K_282 ..).trans (t0.trans (ci_t (by omega) ?_))
    by_cases q1 : I 99 (12 * i + j) = 100
    · exact ci_t q1 (ci_t (by omega) (ci_f (fun w => r ⟨q1, w⟩) rfl))
    · exact ci_f q1 rfl
  by_cases hk : ODk I i j i' j'
  · obtain ⟨f, t, hb⟩ := CLf_B (hm.2.2.2 j hj) (by omega)
    obtain ⟨f', t', hb'⟩ := CLf_B (hm'.2.2.2 j' hj') (by omega)
    have a := ANS_i (S_283 (d := d) (sp := sp) (rt := rt) (tt := tt) (z := z) (show i < 30 by omega) (show i' < 30 by omega) (show j < 12 by omega) (show j' < 12 by omega) hb hb') (ODD_i hk hb hb')
    have k1 : Call PG (d + 2) 282 [(2, 82), (0, ((12 * i + j : Nat) : Int)), (0, ((12 * i' + j' : Nat) : Int))] (I, RF sp rt tt z.1, z) = bd (Call PG (d + 1) 283 [(2, 82), (0, ((12 * i + j : Nat) : Int)), (0, ((12 * i' + j' : Nat) : Int))] (I, RF sp rt tt z.1, z)) (fun v h => Run PG (Call PG (d + 1)) 282 60 [(2, 82), (0, ((12 * i + j : Nat) : Int)), (0, ((12 * i' + j' : Nat) : Int)), (0, 1)] (v.toList ++ []) h (0, 0)) := by
      by_cases q : I 99 (12 * i + j) = 100 ∧ I 99 (12 * i' + j') = 110
      · exact (K_282 ..).trans (t0.trans (ci_t (by omega) (ci_t q.1 (ci_t (by omega) (ci_t q.2 (ci_f (by decide) rfl))))))
      · have r := hk.resolve_left q
        exact (k0 q).trans (t22.trans (ci_t (by omega) (ci_t r.1 (ci_t (by omega) (ci_t r.2 (ci_f (by decide) rfl))))))
    exact ⟨fun p => k1.trans (bd_t (a.1 p) ((T_282_60 ..).trans (ci_f (by decide) rfl))), fun p => k1.trans (bd_t (a.2 p) ((T_282_60 ..).trans (ci_t rfl rfl)))⟩
  · refine ANS_n ((k0 (fun r => hk (Or.inl r))).trans (t22.trans (ci_t (by omega) ?_))) (fun r => hk r.1)
    by_cases q1 : I 99 (12 * i + j) = 110
    · exact ci_t q1 (ci_t (by omega) (ci_f (fun w => hk (Or.inr ⟨q1, w⟩)) (ci_t rfl rfl)))
    · exact ci_f q1 (ci_t rfl rfl)
/-- cell q stands against clause j of text i -/
def ODQ (I : Nat → Nat → Int) (day : Int) (i j q : Nat) : Prop := ((q % 12 : Nat) : Int) < I 97 (q / 12) ∧ I 94 (q / 12) = -1 ∧ (I 95 (q / 12) ≤ day ∧ day ≤ I 96 (q / 12)) ∧ ODD I i j (q / 12) (q % 12)
theorem L_281b (h : TV I tt z c L) (h2 : 0 ≤ I 82 2 ∧ I 82 2 ≤ 5000000) {i j m : Nat} (hi : i < c) (hm : TXf I L i m) (hj : j < m) {P : Prop} (hout : ∀ x3 x4 : AV, dl x3 → dl x4 → ANS (Run PG (Call PG (d + 2)) 281 25 [(2, 82), (0, (i : Int)), (0, ((12 * i + j + 1 : Nat) : Int)), x3, x4] [] (I, RF sp rt tt z.1, z) (0, 0)) P (I, RF sp rt tt z.1, z)) : ∀ (u q : Nat) (x4 : AV), dl x4 → q + u = 12 * c → ANS (Run PG (Call PG (d + 2)) 281 42 [(2, 82), (0, (i : Int)), (0, ((12 * i + j : Nat) : Int)), (0, (q : Int)), x4] [] (I, RF sp rt tt z.1, z) (0, 0)) ((∀ q', q ≤ q' → q' < 12 * c → ¬ ODQ I (Int.tdiv (I 82 2) 1440) i j q') ∧ P) (I, RF sp rt tt z.1, z) := by
  have hc := h.1
  have m12 := hm.1
  intro u
  induction u with
  | zero =>
    intro q x4 h4 hq
    refine ANS_t ?_ (ANS_i (hout (0, (q : Int)) x4 (dl0 _) h4) ⟨fun p => ⟨fun q' q1 q2 => absurd q2 (by omega), p⟩, fun r => r.2⟩)
    refine (T_281_42 _ _ _ _ _ _ _ _ _ _ h4).trans ?_
    rw [h.2.1.2, w32_of (x := 12 * (c : Int)) (by omega) (by omega), show w32 (((12 * i + j : Nat) : Int) + 1) = ((12 * i + j + 1 : Nat) : Int) from w_n (by omega)]
    exact ci_f (by omega) rfl
  | succ u ih =>
    intro q x4 h4 hq
    obtain ⟨m', hm'⟩ := h.2.2.2.2 (q / 12) (by omega)
    have e97 := hm'.2.1.2
    have NX : ∀ y4 : AV, dl y4 → ¬ ODQ I (Int.tdiv (I 82 2) 1440) i j q → ANS (Run PG (Call PG (d + 2)) 281 42 [(2, 82), (0, (i : Int)), (0, ((12 * i + j : Nat) : Int)), (0, w32 ((q : Int) + 1)), y4] [] (I, RF sp rt tt z.1, z) (0, 0)) ((∀ q', q ≤ q' → q' < 12 * c → ¬ ODQ I (Int.tdiv (I 82 2) 1440) i j q') ∧ P) (I, RF sp rt tt z.1, z) := fun y4 g4 hn => by
      rw [w_n (by omega)]
      refine ANS_i (ih (q + 1) y4 g4 (by omega)) ⟨fun r => ⟨fun q' q1 q2 => ?_, r.2⟩, fun r => ⟨fun q' q1 q2 => r.1 q' (by omega) q2, r.2⟩⟩
      by_cases e : q' = q
      · rw [e]; exact hn
      · exact r.1 q' (by omega) q2
    have t42 := T_281_42 (Call PG (d + 2)) I sp rt tt z (i : Int) ((12 * i + j : Nat) : Int) (q : Int) x4 h4
    rw [h.2.1.2, w32_of (x := 12 * (c : Int)) (by omega) (by omega), td_k, tm_k, w32_of (x := ((q / 12 : Nat) : Int)) (by omega) (by omega), show (((q / 12 : Nat) : Int)).toNat = q / 12 by omega] at t42
    by_cases c1 : ((q % 12 : Nat) : Int) < I 97 (q / 12)
    · by_cases c2 : I 94 (q / 12) = -1
      · have k1 : Run PG (Call PG (d + 2)) 281 42 [(2, 82), (0, (i : Int)), (0, ((12 * i + j : Nat) : Int)), (0, (q : Int)), x4] [] (I, RF sp rt tt z.1, z) (0, 0) = Run PG (Call PG (d + 2)) 281 90 [(2, 82), (0, (i : Int)), (0, ((12 * i + j : Nat) : Int)), (0, (q : Int)), (0, ((q / 12 : Nat) : Int))] [(0, bz (I 95 (q / 12) ≤ Int.tdiv (I 82 2) 1440 ∧ Int.tdiv (I 82 2) 1440 ≤ I 96 (q / 12)))] (I, RF sp rt tt z.1, z) (0, 0) := t42.trans (ci_t (by omega) (ci_t (by omega) (ci_t c1 (ci_t (by omega) (ci_t c2 (bd_t (S_244 (d := d) (show q / 12 < 30 by omega) h2) rfl))))))
        by_cases c3 : I 95 (q / 12) ≤ Int.tdiv (I 82 2) 1440 ∧ Int.tdiv (I 82 2) 1440 ≤ I 96 (q / 12)
        · rw [bz_t c3] at k1
          have a := S_282 (d := d) (sp := sp) (rt := rt) h hi hm hj (show q / 12 < c by omega) hm' (j' := q % 12) (by omega) (q := q) (by omega)
          by_cases r : ODD I i j (q / 12) (q % 12)
          · exact ANS_n (k1.trans ((T_281_90 ..).trans (ci_f (by decide) (bd_t (a.1 r) ((T_281_99 ..).trans (ci_f (by decide) rfl)))))) (fun w => w.1 q (Nat.le_refl _) (by omega) ⟨c1, c2, c3, r⟩)
          · exact ANS_t (k1.trans ((T_281_90 ..).trans (ci_f (by decide) (bd_t (a.2 r) ((T_281_99 ..).trans (ci_t rfl rfl)))))) (NX _ (dl0 _) (fun w => r w.2.2.2))
        · rw [bz_f c3] at k1
          exact ANS_t (k1.trans ((T_281_90 ..).trans (ci_t rfl rfl))) (NX _ (dl0 _) (fun w => c3 w.2.2.1))
      · exact ANS_t (t42.trans (ci_t (by omega) (ci_t (by omega) (ci_t c1 (ci_t (by omega) (ci_f c2 rfl)))))) (NX _ (dl0 _) (fun w => c2 w.2.1))
    · exact ANS_t (t42.trans (ci_t (by omega) (ci_t (by omega) (ci_f c1 rfl)))) (NX _ (dl0 _) (fun w => c1 w.1))
theorem L_281a (h : TV I tt z c L) (h2 : 0 ≤ I 82 2 ∧ I 82 2 ≤ 5000000) {i m : Nat} (hi : i < c) (hm : TXf I L i m) : ∀ (u j : Nat) (x3 x4 : AV), dl x3 → dl x4 → j + u = m → ANS (Run PG (Call PG (d + 2)) 281 25 [(2, 82), (0, (i : Int)), (0, ((12 * i + j : Nat) : Int)), x3, x4] [] (I, RF sp rt tt z.1, z) (0, 0)) (∀ j', j ≤ j' → j' < m → ∀ q, q < 12 * c → ¬ ODQ I (Int.tdiv (I 82 2) 1440) i j' q) (I, RF sp rt tt z.1, z) := by
  have hc := h.1
  have m12 := hm.1
  have e97 := hm.2.1.2
  intro u
  induction u with
  | zero =>
    intro j x3 x4 h3 h4 hj
    refine ANS_y ((T_281_25 _ _ _ _ _ _ _ _ _ _ h3 h4).trans ?_) (fun j' q1 q2 => absurd q2 (by omega))
    rw [show ((i : Int)).toNat = i by omega, e97, w32_of (x := 12 * (i : Int)) (by omega) (by omega), w32_of (x := 12 * (i : Int) + (m : Int)) (by omega) (by omega)]
    exact ci_t (by omega) (ci_f (by omega) rfl)
  | succ u ih =>
    intro j x3 x4 h3 h4 hj
    have b := L_281b (d := d) (sp := sp) (rt := rt) h h2 hi hm (show j < m by omega) (fun y3 y4 g3 g4 => ih (j + 1) y3 y4 g3 g4 (by omega)) (12 * c) 0 x4 h4 (Nat.zero_add _)
    refine ANS_t ?_ (ANS_i b ⟨fun v j' q1 q2 q q3 => ?_, fun v => ⟨fun q' _ q2 => v j (Nat.le_refl _) (by omega) q' q2, fun j' q1 q2 => v j' (by omega) q2⟩⟩)
    · refine (T_281_25 _ _ _ _ _ _ _ _ _ _ h3 h4).trans ?_
      rw [show ((i : Int)).toNat = i by omega, e97, w32_of (x := 12 * (i : Int)) (by omega) (by omega), w32_of (x := 12 * (i : Int) + (m : Int)) (by omega) (by omega)]
      exact ci_t (by omega) (ci_t (by omega) rfl)
    · by_cases e : j' = j
      · rw [e]; exact v.1 q (Nat.zero_le _) q3
      · exact v.2 j' (by omega) q2 q q3
theorem o_within (i : Int) (hh : InvS I ∧ GN0 I ∧ GK I) (hx : GX I sp tt z.1) : OpL GX 0 93 281 [(0, i)] I sp rt tt z := by
  obtain ⟨c, L, hV, h95, hL⟩ := GX_TV hx
  have hc := hV.1
  have t0 := hh.1.1.1
  have hd := day_b t0.2
  have s46 := S_46 (d := 297) (I := I) (sp := sp) (rt := rt) (tt := tt) (z := z) (p := i)
  rw [hV.2.1.1] at s46
  have s241 := S_241 (d := 297) (I := I) (sp := sp) (rt := rt) (tt := tt) (z := z) (p := i) (by rw [hV.2.1.2]; omega)
  rw [hV.2.1.2] at s241
  have k94 : Call PG 299 94 [(2, 9), (0, i)] (I, RF sp rt tt z.1, z) = Run PG (Call PG 298) 94 5 [(2, 9), (0, i)] [(0, bz (0 ≤ i ∧ i < (c : Int)))] (I, RF sp rt tt z.1, z) (0, 0) := (K_94 ..).trans ((T_94_0 ..).trans (bd_t s46 rfl))
  have d2 : Call PG 300 281 [(2, 82), (0, i)] (I, RF sp rt tt z.1, z) = Run PG (Call PG 299) 281 5 [(2, 82), (0, i), (9, 0), (9, 0), (9, 0)] [(0, bz (0 ≤ i ∧ i < (c : Int)))] (I, RF sp rt tt z.1, z) (0, 0) := (K_281 ..).trans ((T_281_0 ..).trans (bd_t s241 rfl))
  have no : Call PG 299 94 [(2, 9), (0, i)] (I, RF sp rt tt z.1, z) = some (some (0, 0), (I, RF sp rt tt z.1, z)) → Call PG 300 93 [(2, 0), (0, i)] (I, RF sp rt tt z.1, z) = some (some (0, -1), (I, RF sp rt tt z.1, z)) := fun e => (K_93 ..).trans ((T_93_0 ..).trans (bd_t e ((T_93_8 ..).trans (ci_t rfl rfl))))
  by_cases c1 : 0 ≤ i ∧ i < (c : Int)
  · obtain ⟨n, rfl⟩ := Int.eq_ofNat_of_zero_le c1.1
    have hi : n < c := by omega
    obtain ⟨m, hm⟩ := hV.2.2.2.2 n hi
    have m12 := hm.1
    have e97 := hm.2.1.2
    have hx1 := tcL (sp := sp) (rt := rt) hV hi
    have l1 : (LAY (tc n)).1 = 3 := by rw [hx1.2.1]
    have r11 := rf11 (sp := sp) (rt := rt) hV hi
    rw [bz_t c1] at k94 d2
    have k5 := T_94_5 (Call PG 298) I sp rt tt z (n : Int) 1
    have d5 := T_281_5 (Call PG 299) I sp rt tt z (n : Int) 1
    rw [show ((n : Int)).toNat = n by omega] at k5 d5
    by_cases c2 : I 94 n = -1
    · refine ⟨-1, I, I, no (k94.trans (k5.trans (ci_f (by decide) (ci_t (by omega) (nn_t r11 (ite_t l1 ?_)))))), d2.trans (d5.trans (ci_f (by decide) (ci_t (by omega) (ci_t c2 rfl)))), hh, hx⟩
      rw [← hm.2.2.1.1]
      exact ci_t c2 rfl
    · have e94 : Call PG 299 94 [(2, 9), (0, (n : Int))] (I, RF sp rt tt z.1, z) = some (some (0, 1), (I, RF sp rt tt z.1, z)) := by
        refine k94.trans (k5.trans (ci_f (by decide) (ci_t (by omega) (nn_t r11 (ite_t l1 ?_)))))
        rw [← hm.2.2.1.1]
        exact ci_f c2 rfl
      have a := L_95 (d := 296) (sp := sp) (rt := rt) hV hi (day := Int.tdiv (I 0 0) 1440) c 0 (Nat.zero_add _)
      have b := L_281a (d := 297) (sp := sp) (rt := rt) hV (by rw [t0.1]; exact t0.2) hi hm m 0 (9, 0) (9, 0) dl9 dl9 (Nat.zero_add _)
      rw [t0.1] at b
      have eqv : (∀ k', 0 ≤ k' → k' < c → ¬ ODT I (Int.tdiv (I 0 0) 1440) n k') ↔ ∀ j', 0 ≤ j' → j' < m → ∀ q, q < 12 * c → ¬ ODQ I (Int.tdiv (I 0 0) 1440) n j' q := by
        refine ⟨fun r j' _ hj' q hq w => ?_, fun r k' _ hk' w => ?_⟩
        · exact r (q / 12) (Nat.zero_le _) (by omega) ⟨w.2.1, w.2.2.1, j', q % 12, by omega, w.1, w.2.2.2⟩
        · obtain ⟨w1, w2, x, y, w3, w4, w5⟩ := w
          obtain ⟨m', hm'⟩ := hV.2.2.2.2 k' hk'
          have m12' := hm'.1
          have e97' := hm'.2.1.2
          have y12 : y < 12 := by omega
          refine r x (Nat.zero_le _) (by omega) (12 * k' + y) (by omega) ?_
          unfold ODQ
          rw [show (12 * k' + y) / 12 = k' by omega, show (12 * k' + y) % 12 = y by omega]
          exact ⟨w4, w1, w2, w5⟩
      have a' := ANS_i a eqv
      have kk : Call PG 300 93 [(2, 0), (0, (n : Int))] (I, RF sp rt tt z.1, z) = bd (Call PG 299 95 [(2, 9), (0, (n : Int)), (0, Int.tdiv (I 0 0) 1440)] (I, RF sp rt tt z.1, z)) (fun v h => Run PG (Call PG 299) 93 25 [(2, 0), (0, (n : Int))] (v.toList ++ []) h (0, 0)) := by
        refine (K_93 ..).trans ((T_93_0 ..).trans (bd_t e94 ((T_93_8 ..).trans (ci_f (by decide) (bd_t S_47 ?_)))))
        rw [w32_of (x := Int.tdiv (I 0 0) 1440) (by omega) (by omega)]
        exact T_93_22 ..
      have k95 : Call PG 299 95 [(2, 9), (0, (n : Int)), (0, Int.tdiv (I 0 0) 1440)] (I, RF sp rt tt z.1, z) = Run PG (Call PG 298) 95 2 [(2, 9), (0, (n : Int)), (0, Int.tdiv (I 0 0) 1440), (0, ((0 : Nat) : Int))] [] (I, RF sp rt tt z.1, z) (0, 0) := (K_95 ..).trans (T_95_0 ..)
      have kr : Call PG 300 281 [(2, 82), (0, (n : Int))] (I, RF sp rt tt z.1, z) = Run PG (Call PG 299) 281 25 [(2, 82), (0, (n : Int)), (0, ((12 * n + 0 : Nat) : Int)), (9, 0), (9, 0)] [] (I, RF sp rt tt z.1, z) (0, 0) := by
        refine d2.trans (d5.trans (ci_f (by decide) (ci_t (by omega) (ci_f c2 ?_))))
        rw [w32_of (x := 12 * (n : Int)) (by omega) (by omega), show 12 * (n : Int) = ((12 * n + 0 : Nat) : Int) by omega]
      by_cases p : ∀ j', 0 ≤ j' → j' < m → ∀ q, q < 12 * c → ¬ ODQ I (Int.tdiv (I 0 0) 1440) n j' q
      · exact ⟨1, I, I, kk.trans (bd_t (k95.trans (a'.1 p)) ((T_93_25 ..).trans (ci_f (by decide) rfl))), kr.trans (b.1 p), hh, hx⟩
      · exact ⟨0, I, I, kk.trans (bd_t (k95.trans (a'.2 p)) ((T_93_25 ..).trans (ci_t rfl rfl))), kr.trans (b.2 p), hh, hx⟩
  · rw [bz_f c1] at k94 d2
    exact ⟨-1, I, I, no (k94.trans ((T_94_5 ..).trans (ci_t rfl rfl))), d2.trans ((T_281_5 ..).trans (ci_t rfl rfl)), hh, hx⟩
end WJ0

