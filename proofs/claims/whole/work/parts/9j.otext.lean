/-! text: both answer alike -/
def MGK (a j : Nat) : Bool := decide (MN a j = true ∨ a = 37 ∨ a = 42 ∨ a = 44)
theorem GK_mm {I J : Nat → Nat → Int} (h : mkI MN J = mkI MN I) (h2 : ∀ a j, (a = 37 ∨ a = 42 ∨ a = 44) → J a j = I a j) (H : GK I) : GK J := by
  have e33 : J 33 = I 33 := funext (fun j => mk_at h (by rfl))
  have e119 : J 119 = I 119 := funext (fun j => mk_at h (by rfl))
  have e25 : J 25 1 = I 25 1 := mk_at h (by rfl)
  refine ⟨fun p hp => ?_, fun p hp => ?_⟩
  · rw [h2 37 p (Or.inl rfl), FWc_m h]
    exact H.1 p hp
  · rw [h2 44 p (Or.inr (Or.inr rfl)), LVc_m h]
    rcases H.2 p hp with q | ⟨q, q2⟩
    · exact Or.inl q
    · refine Or.inr ⟨q, fun r hr hrp => ?_⟩
      rw [h2 42 r (Or.inr (Or.inl rfl)), ARc_m h]
      rw [e25] at hr
      rw [e33, e119] at hrp
      exact q2 r hr hrp
theorem T_23_88g (C : Cal) (hp : Hp) (g : GG) (x1 x2 x3 x4 s0 : Int) : Run PG C 23 88 [(2, 0), (0, x1), (0, x2), (0, x3), (0, x4)] [(0, s0)] hp g = some (some (0, s0), hp) := (rt_eq CD_23 [] 1 88 _ _ _ _).trans (Eq.refl _)
section OT0
variable {I : Nat → Nat → Int} {sp rt : Nat} {tt : Nat → Nat} {z : Zs} {n c : Nat}
theorem c23_no {d : Nat} {x1 x2 x3 x4 : Int} (h : ¬ ((x1 = -1 ∨ (0 ≤ x1 ∧ x1 < I 2 6)) ∧ (0 ≤ x2 ∧ x2 ≤ 3472) ∧ (x2 ≤ x3 ∧ x3 ≤ 3472) ∧ (1 ≤ x4 ∧ x4 ≤ I 0 2) ∧ ¬ 30 ≤ I 9 1)) : Call PG (d + 2) 23 [(2, 0), (0, x1), (0, x2), (0, x3), (0, x4)] (I, RF sp rt tt z.1, z) = some (some (0, -1), (I, RF sp rt tt z.1, z)) := by
  have k : (x1 = -1 ∨ (0 ≤ x1 ∧ x1 < I 2 6)) → Run PG (Call PG (d + 1)) 23 26 [(2, 0), (0, x1), (0, x2), (0, x3), (0, x4)] [(0, bz (0 ≤ x2 ∧ x2 ≤ 3472))] (I, RF sp rt tt z.1, z) (0, 0) = some (some (0, -1), (I, RF sp rt tt z.1, z)) := by
    intro h1
    refine (T_23_26 ..).trans ?_
    by_cases c2 : 0 ≤ x2 ∧ x2 ≤ 3472
    · rw [bz_t c2]
      refine ci_f (by decide) (bd_t S_13 ?_)
      refine (T_23_37 ..).trans ?_
      by_cases c3 : x2 ≤ x3 ∧ x3 ≤ 3472
      · rw [bz_t c3]
        refine ci_f (by decide) (bd_t S_13 ?_)
        refine (T_23_52 ..).trans ?_
        by_cases c4 : 1 ≤ x4 ∧ x4 ≤ I 0 2
        · rw [bz_t c4]
          refine ci_f (by decide) (bd_t S_24 ?_)
          refine (T_23_62 ..).trans ?_
          have c5 : 30 ≤ I 9 1 := Classical.byContradiction (fun q => h ⟨h1, c2, c3, c4, q⟩)
          rw [bz_t c5]
          exact ci_f (by decide) rfl
        · rw [bz_f c4]
          exact ci_t rfl rfl
      · rw [bz_f c3]
        exact ci_t rfl rfl
    · rw [bz_f c2]
      exact ci_t rfl rfl
  refine (K_23 ..).trans ?_
  refine (T_23_0 ..).trans ?_
  by_cases c0 : x1 = -1
  · exact ci_t c0 (bd_t S_13 (k (Or.inl c0)))
  · refine ci_f c0 (bd_t S_18 ?_)
    refine (T_23_13 ..).trans ?_
    by_cases c1 : 0 ≤ x1 ∧ x1 < I 2 6
    · rw [bz_t c1]
      exact ci_f (by decide) (bd_t S_13 (k (Or.inr c1)))
    · rw [bz_f c1]
      exact ci_t rfl rfl
theorem c23_y {d : Nat} {x1 x2 x3 x4 : Int} (h : (x1 = -1 ∨ (0 ≤ x1 ∧ x1 < I 2 6)) ∧ (0 ≤ x2 ∧ x2 ≤ 3472) ∧ (x2 ≤ x3 ∧ x3 ≤ 3472) ∧ (1 ≤ x4 ∧ x4 ≤ I 0 2) ∧ ¬ 30 ≤ I 9 1) {v : Int} {hp : Hp} (e : Call PG (d + 1) 25 [(2, 9), (2, 1), (0, x4), (0, x1), (0, x2), (0, x3)] (up2 I 0 2 0, RF sp rt tt z.1, z) = some (some (0, v), hp)) : Call PG (d + 2) 23 [(2, 0), (0, x1), (0, x2), (0, x3), (0, x4)] (I, RF sp rt tt z.1, z) = Run PG (Call PG (d + 1)) 23 88 [(2, 0), (0, x1), (0, x2), (0, x3), (0, x4)] [(0, v)] hp (10, 421) := by
  have k : Run PG (Call PG (d + 1)) 23 26 [(2, 0), (0, x1), (0, x2), (0, x3), (0, x4)] [(0, bz (0 ≤ x2 ∧ x2 ≤ 3472))] (I, RF sp rt tt z.1, z) (0, 0) = Run PG (Call PG (d + 1)) 23 88 [(2, 0), (0, x1), (0, x2), (0, x3), (0, x4)] [(0, v)] hp (10, 421) := by
    refine (T_23_26 ..).trans ?_
    rw [bz_t h.2.1]
    refine ci_f (by decide) (bd_t S_13 ?_)
    refine (T_23_37 ..).trans ?_
    rw [bz_t h.2.2.1]
    refine ci_f (by decide) (bd_t S_13 ?_)
    refine (T_23_52 ..).trans ?_
    rw [bz_t h.2.2.2.1]
    refine ci_f (by decide) (bd_t S_24 ?_)
    refine (T_23_62 ..).trans ?_
    rw [bz_f h.2.2.2.2]
    exact ci_t rfl (bd_t e rfl)
  refine (K_23 ..).trans ?_
  refine (T_23_0 ..).trans ?_
  by_cases c0 : x1 = -1
  · exact ci_t c0 (bd_t S_13 k)
  · refine ci_f c0 (bd_t S_18 ?_)
    refine (T_23_13 ..).trans ?_
    rw [bz_t (h.1.resolve_left c0)]
    exact ci_f (by decide) (bd_t S_13 k)
theorem c216_no {d : Nat} {x1 x2 x3 x4 : Int} (h3 : 0 ≤ I 82 3 ∧ I 82 3 ≤ 5000) (h : ¬ ((x1 = -1 ∨ (0 ≤ x1 ∧ x1 < I 82 3)) ∧ (0 ≤ x2 ∧ x2 ≤ 3472) ∧ (x2 ≤ x3 ∧ x3 ≤ 3472) ∧ ((1 ≤ x4 ∧ x4 ≤ 160) ∧ x4 ≤ I 82 1) ∧ ¬ I 82 5 = 30)) : Call PG (d + 3) 216 [(2, 82), (0, x1), (0, x2), (0, x3), (0, x4)] (I, RF sp rt tt z.1, z) = some (some (0, -1), (I, RF sp rt tt z.1, z)) := by
  refine (K_216 ..).trans ?_
  refine (T_216_0 ..).trans ?_
  by_cases c5 : I 82 5 = 30
  · exact ci_t c5 rfl
  · refine ci_f c5 ?_
    have k : (x1 = -1 ∨ (0 ≤ x1 ∧ x1 < I 82 3)) → Run PG (Call PG (d + 2)) 216 31 [(2, 82), (0, x1), (0, x2), (0, x3), (0, x4), (9, 0), (9, 0)] [(0, bz (0 ≤ x2 ∧ x2 ≤ 3472))] (I, RF sp rt tt z.1, z) (0, 0) = some (some (0, -1), (I, RF sp rt tt z.1, z)) := by
      intro h1
      refine (T_216_31 ..).trans ?_
      by_cases c2 : 0 ≤ x2 ∧ x2 ≤ 3472
      · rw [bz_t c2]
        refine ci_f (by decide) (bd_t S_209 ?_)
        refine (T_216_44 ..).trans ?_
        by_cases c3 : x2 ≤ x3 ∧ x3 ≤ 3472
        · rw [bz_t c3]
          refine ci_f (by decide) (bd_t S_209 ?_)
          refine (T_216_57 ..).trans ?_
          by_cases c4 : 1 ≤ x4 ∧ x4 ≤ 160
          · rw [bz_t c4]
            exact ci_f (by decide) (ci_f (fun q => h ⟨h1, c2, c3, ⟨c4, q⟩, c5⟩) rfl)
          · rw [bz_f c4]
            exact ci_t rfl rfl
        · rw [bz_f c3]
          exact ci_t rfl rfl
      · rw [bz_f c2]
        exact ci_t rfl rfl
    by_cases c0 : x1 = -1
    · exact ci_t c0 (bd_t S_209 (k (Or.inl c0)))
    · refine ci_f c0 (bd_t (S_212 h3) ?_)
      refine (T_216_19 ..).trans ?_
      by_cases c1 : 0 ≤ x1 ∧ x1 < I 82 3
      · rw [bz_t c1]
        exact ci_f (by decide) (bd_t S_209 (k (Or.inr c1)))
      · rw [bz_f c1]
        exact ci_t rfl rfl
/-- what both leave as it was -/
def FTx (T c : Nat) (I J : Nat → Nat → Int) : Prop := ∀ a j, ¬ a = 22 → ¬ (T ≤ a ∧ a ≤ T + 9) → ¬ (a = 9 ∧ (j = 1 ∨ j = 5)) → ¬ (a = 0 ∧ j = 2) → ¬ (a = 82 ∧ (j = 1 ∨ j = 5 ∨ (45 ≤ j ∧ j ≤ 53))) → ¬ (99 ≤ a ∧ a ≤ 105 ∧ 12 * c ≤ j) → ¬ (94 ≤ a ∧ a ≤ 97 ∧ j = c) → ¬ (a = 98 ∧ 160 * c ≤ j) → ¬ ((a = 106 ∨ a = 107) ∧ 160 * c ≤ j) → ¬ a = 108 → J a j = I a j
theorem FT_inv {T : Nat} {J : Nat → Nat → Int} (hh : InvS I ∧ GN0 I ∧ GK I) (hT : T = 12 ∨ 163 ≤ T) (F : FTx T c I J) (h0 : J 0 2 = 0) (h1 : J 82 1 = 0) : InvS J ∧ GN0 J ∧ GK J := by
  obtain ⟨⟨hT0, hP, hC, hW, hL, hI, hS⟩, hn, hk⟩ := hh
  have hI' : InvS (up2 (up2 I 0 2 0) 82 1 0) := ⟨⟨hT0.1, ⟨rfl, (show (0 : Int) ≤ 0 by decide), (show (0 : Int) ≤ 160 by decide)⟩, hT0.2.2⟩, hP, hC, hW, hL, hI, hS⟩
  have m1 : mkI MI J = mkI MI (up2 (up2 I 0 2 0) 82 1 0) := mkI_eq (fun a j hm => by
    have hm' := of_decide_eq_true hm
    rw [up2_def, up2_def]
    by_cases q1 : a = 82 ∧ j = 1
    · rw [if_pos q1, q1.1, q1.2]; exact h1
    · rw [if_neg q1]
      by_cases q2 : a = 0 ∧ j = 2
      · rw [if_pos q2, q2.1, q2.2]; exact h0
      · rw [if_neg q2]
        exact F a j (by omega) (by omega) (by omega) q2 (by omega) (by omega) (by omega) (by omega) (by omega) (by omega))
  have m2 : mkI MN J = mkI MN I := mkI_eq (fun a j hm => by
    have hm' := of_decide_eq_true hm
    exact F a j (by omega) (by omega) (by omega) (by omega) (by omega) (by omega) (by omega) (by omega) (by omega) (by omega))
  exact ⟨InvS_m m1 hI', GN0_m m2 hn, GK_mm m2 (fun a j q => F a j (by omega) (by omega) (by omega) (by omega) (by omega) (by omega) (by omega) (by omega) (by omega) (by omega)) hk⟩
theorem FT_txt {L L' i : Nat} {J : Nat → Nat → Int} (F : FTx (tc c) c I J) (hi : i < c) (h : TXT I L i) (hl : ∀ k, L.testBit k = true → L'.testBit k = true) : TXT J L' i := by
  have h1 := tc_d i
  have h2 := tc_d c
  exact TXT_m h (fun a j q1 q2 _ => F a j (by omega) (by omega) (by omega) (by omega) (by omega) (by omega) (by omega) (by omega) (by omega) (by omega)) (fun a q1 q2 => F a i (by omega) (by omega) (by omega) (by omega) (by omega) (by omega) (by omega) (by omega) (by omega) (by omega)) (fun j hj => ⟨F 98 j (by decide) (by omega) (by omega) (by omega) (by omega) (by omega) (by omega) (by omega) (by omega) (by decide), F 106 j (by decide) (by omega) (by omega) (by omega) (by omega) (by omega) (by omega) (by omega) (by omega) (by decide), F 107 j (by decide) (by omega) (by omega) (by omega) (by omega) (by omega) (by omega) (by omega) (by omega) (by decide)⟩) (fun a j q1 q2 q3 => F a j (by omega) (by omega) (by omega) (by omega) (by omega) (by omega) (by omega) (by omega) (by omega) (by omega)) hl
theorem o_text (x1 x2 x3 x4 : Int) (hh : InvS I ∧ GN0 I ∧ GK I) (hx : GX I sp tt z.1) : OpT GX [(0, x1), (0, x2), (0, x3), (0, x4)] I sp rt tt z := by
  have hh0 := hh
  have hx0 := hx
  obtain ⟨⟨hT0, hP, hC, hW, hL, hI, hS⟩, hn, hk⟩ := hh
  obtain ⟨c, hc30, ⟨h91, h825⟩, hz, hsp, htt, ⟨s, h51⟩, L, h95, hL4, hTX⟩ := hx
  have t1 := hT0.2.1
  have p1 := hP.1
  by_cases cc : (x1 = -1 ∨ (0 ≤ x1 ∧ x1 < I 2 6)) ∧ (0 ≤ x2 ∧ x2 ≤ 3472) ∧ (x2 ≤ x3 ∧ x3 ≤ 3472) ∧ (1 ≤ x4 ∧ x4 ≤ I 0 2) ∧ ¬ 30 ≤ I 9 1
  · obtain ⟨n, rfl⟩ := Int.eq_ofNat_of_zero_le (show 0 ≤ x4 by omega)
    have hc : c < 30 := by omega
    have hn160 : n ≤ 160 := by omega
    have htc := tc_d c
    have hT : tc c = 12 ∨ 163 ≤ tc c := by omega
    have e83 : I 83 = I 1 := funext hT0.2.2.1
    obtain ⟨K, hK⟩ := S_25 (d := 260) (I := up2 I 0 2 0) (sp := sp) (rt := rt) (tt := tt) (z := z) (T := tc c) (n := n) (c := c) hsp (fun _ _ _ => TX_tc (by omega) (by omega)) hz hn160 ((up2_ne (by decide)).trans h91) hc hT (x3 := x1) (x4 := x2) (x5 := x3)
    have eB : (up2 I 0 2 0) 1 = I 1 := funext (fun j => up2_ne (by decide))
    rw [eB] at hK
    cases hr : RDL (qc (I 1) n) n 12 0 with
    | inl e0 =>
      rw [hr] at hK
      obtain ⟨e25, fK⟩ := hK
      have gK : ∀ a j, ¬ a = 22 → ¬ (tc c ≤ a ∧ a ≤ tc c + 9) → ¬ (a = 0 ∧ j = 2) → K a j = I a j := fun a j q1 q2 q3 => (fK a j q1 q2).trans (by rw [up2_def, if_neg q3])
      have k83 : K 83 = I 1 := (funext (fun j => gK 83 j (by decide) (by omega) (by omega))).trans e83
      obtain ⟨J, fJ, j1, ⟨s', j51⟩, hJ⟩ := R_216 (d := 290) (I := K) (sp := sp) (rt := tc c + 1) (tt := tt) (z := z) (n := n) (t := c) (s := s) (x1 := x1) (x2 := x2) (x3 := x3) ((gK _ _ (by decide) (by omega) (by decide)).trans h825) hc ((gK _ _ (by decide) (by omega) (by decide)).trans h51) (by rw [gK 82 3 (by decide) (by omega) (by decide)]; omega) (by omega) (by rw [gK 82 3 (by decide) (by omega) (by decide)]; omega) cc.2.1 cc.2.2.1 (by rw [gK 82 1 (by decide) (by omega) (by decide)]; omega)
      rw [k83, hr] at hJ
      have F : FTx (tc c) c I J := fun a j q1 q2 q3 q4 q5 q6 q7 q8 q9 q10 => (fJ a j q5 q6 q7 q8 q9 q10).trans (gK a j q1 q2 q4)
      refine ⟨e0, K, J, sp, tc c + 1, z.1, tt, (c23_y cc e25).trans (T_23_88g ..), hJ.2, FT_inv hh0 hT F ?_ j1, c, hc30, ⟨?_, ?_⟩, hz, hsp, htt, ⟨s', j51⟩, L, ?_, hL4, fun i hi => FT_txt F hi (hTX i hi) (fun _ q => q)⟩
      · rw [fJ 0 2 (by decide) (by omega) (by omega) (by omega) (by omega) (by decide), fK 0 2 (by decide) (by omega)]
        exact up2_eq
      · rw [fJ 9 1 (by decide) (by omega) (by omega) (by omega) (by omega) (by decide), gK 9 1 (by decide) (by omega) (by decide)]
        exact h91
      · rw [hJ.1, gK 82 5 (by decide) (by omega) (by decide)]
        exact h825
      · rw [fJ 9 5 (by decide) (by omega) (by omega) (by omega) (by omega) (by decide), gK 9 5 (by decide) (by omega) (by decide)]
        exact h95
    | inr l =>
      rw [hr] at hK
      obtain ⟨e25, fK, k91, ⟨kT0, kT1, kT2⟩, kT5, kB, le, hle, k95, kcl⟩ := hK
      have gK : ∀ a j, ¬ a = 22 → ¬ (tc c ≤ a ∧ a ≤ tc c + 9) → ¬ (a = 0 ∧ j = 2) → ¬ (a = 9 ∧ (j = 1 ∨ j = 5)) → K a j = I a j := fun a j q1 q2 q3 q4 => (fK a j q1 q2 q4).trans (by rw [up2_def, if_neg q3])
      have k83 : K 83 = I 1 := (funext (fun j => gK 83 j (by decide) (by omega) (by omega) (by omega))).trans e83
      obtain ⟨J, fJ, j1, ⟨s', j51⟩, hJ⟩ := R_216 (d := 290) (I := K) (sp := z.1 + 1) (rt := tc c + 1) (tt := fun j => if j = c then tc c + 1 else tt j) (z := (z.1 + 10, z.2)) (n := n) (t := c) (s := s) (x1 := x1) (x2 := x2) (x3 := x3) ((gK _ _ (by decide) (by omega) (by decide) (by decide)).trans h825) hc ((gK _ _ (by decide) (by omega) (by decide) (by decide)).trans h51) (by rw [gK 82 3 (by decide) (by omega) (by decide) (by decide)]; omega) (by omega) (by rw [gK 82 3 (by decide) (by omega) (by decide) (by decide)]; omega) cc.2.1 cc.2.2.1 (by rw [gK 82 1 (by decide) (by omega) (by decide) (by decide)]; omega)
      rw [k83, hr] at hJ
      obtain ⟨e216, j5, ⟨j94, j95, j96, j97⟩, jB, krl⟩ := hJ
      have F : FTx (tc c) c I J := fun a j q1 q2 q3 q4 q5 q6 q7 q8 q9 q10 => (fJ a j q5 q6 q7 q8 q9 q10).trans (gK a j q1 q2 q4 q3)
      have jK : ∀ a j, tc c ≤ a → a ≤ tc c + 9 → J a j = K a j := fun a j q1 q2 => fJ a j (by omega) (by omega) (by omega) (by omega) (by omega) (by omega)
      have hok := (RDL_ok (qc_OQ (I 1) n) 12 0).2 l hr
      have htc1 : tc (c + 1) = 163 + 10 * c := tc_s
      have eL : io32 ((up2 I 0 2 0) 9 5) (le : Int) = ((L ||| le : Nat) : Int) := by
        rw [up2_ne (by decide), h95, io_n (by omega) (by omega)]
      refine ⟨(c : Int), K, J, z.1 + 1, tc c + 1, z.1 + 10, (fun j => if j = c then tc c + 1 else tt j), (c23_y cc e25).trans (T_23_88g ..), e216, FT_inv hh0 hT F ?_ j1, c + 1, by omega, ⟨?_, j5⟩, by omega, by omega, fun i hi => ?_, ⟨s', j51⟩, L ||| le, ?_, Nat.or_lt_two_pow (n := 12) hL4 hle, fun i hi => ?_⟩
      · rw [fJ 0 2 (by decide) (by omega) (by omega) (by omega) (by omega) (by decide), fK 0 2 (by decide) (by omega) (by decide)]
        exact up2_eq
      · rw [fJ 9 1 (by decide) (by omega) (by omega) (by omega) (by omega) (by decide)]
        exact k91
      · show (if i = c then tc c + 1 else tt i) = tc i + 1
        by_cases q : i = c
        · rw [if_pos q, q]
        · rw [if_neg q]
          exact htt i (by omega)
      · rw [fJ 9 5 (by decide) (by omega) (by omega) (by omega) (by omega) (by decide), k95]
        exact eL
      · by_cases q : i = c
        · subst q
          have hby := hT0.2.2.2
          refine ⟨n, l, ⟨hok.2.1, hok.1⟩, hn160, ⟨(jK _ _ (by omega) (by omega)).trans kT5, j97⟩, ⟨j94.trans ((jK _ _ (by omega) (by omega)).trans kT0).symm, j95.trans ((jK _ _ (by omega) (by omega)).trans kT1).symm, j96.trans ((jK _ _ (by omega) (by omega)).trans kT2).symm⟩, hok.2.2, fun k hk => ?_, KCL_m (fun a j q1 q2 => jK a j (by omega) (by omega)) (fun x _ => jK _ _ (by omega) (by omega)) (fun k hk => by rw [Nat.testBit_or, hk, Bool.or_true]) l 0 kcl, krl, fun c' hc' q => ?_⟩
          · rw [jB k hk, jK _ _ (by omega) (by omega), kB k hk]
            have b := hby k
            rw [Int.bmod_def]
            split <;> omega
          · have kq : ∀ k, k < n → J (tc i + 1) k = I 1 k := fun k hk => by
              rw [jK _ _ (by omega) (by omega), kB k hk]
            have hb := RDL_b 12 0 l hr c' hc' q
            have g := (hok.2.2 c' hc').2.2.2 q
            unfold qc at hb
            rw [if_pos (by omega), if_pos (by omega)] at hb
            rw [kq _ (by omega), kq _ (by omega)]
            exact ⟨by_c (hby _) (by decide) hb.1, by_c (hby _) (by decide) hb.2⟩
        · exact FT_txt F (by omega) (hTX i (by omega)) (fun k hk => by rw [Nat.testBit_or, hk, Bool.true_or])
  · have e1 := c23_no (d := 298) (sp := sp) (rt := rt) (tt := tt) (z := z) cc
    have e2 := c216_no (d := 297) (I := I) (sp := sp) (rt := rt) (tt := tt) (z := z) (x1 := x1) (x2 := x2) (x3 := x3) (x4 := x4) (by omega) (fun q => cc ⟨by omega, q.2.1, q.2.2.1, by omega, by omega⟩)
    exact ⟨-1, I, I, sp, rt, z.1, tt, e1, e2, hh0, hx0⟩
end OT0

