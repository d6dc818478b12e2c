/-! trial, worst, ways, fewest -/
theorem GK_c {I J : Nat → Nat → Int} (h : FRc I J) (H : GK I) : GK J := by
  have hM := FRn_N (FRn_c h)
  have e37 : J 37 = I 37 := FRc_f h (by decide) (by decide) (by decide) (by decide) (by decide) (by decide)
  have e44 : J 44 = I 44 := FRc_f h (by decide) (by decide) (by decide) (by decide) (by decide) (by decide)
  have e42 : J 42 = I 42 := FRc_f h (by decide) (by decide) (by decide) (by decide) (by decide) (by decide)
  have e25 : J 25 1 = I 25 1 := h 25 1 (by decide) (by decide) (by decide) (by decide) (by decide) (by decide)
  have e33 : J 33 = I 33 := FRc_f h (by decide) (by decide) (by decide) (by decide) (by decide) (by decide)
  have e119 : J 119 = I 119 := FRc_f h (by decide) (by decide) (by decide) (by decide) (by decide) (by decide)
  constructor
  · intro p hp
    rw [e37, FWc_m hM]
    exact H.1 p hp
  · intro p hp
    rw [e44, e42, e25, e33, e119, LVc_m hM]
    rcases H.2 p hp with q | ⟨q1, q2⟩
    · exact Or.inl q
    · exact Or.inr ⟨q1, fun r hr e => by rw [ARc_m hM]; exact q2 r hr e⟩
theorem FRn_all {I J : Nat → Nat → Int} (h : FRn I J) : J 2 6 = I 2 6 ∧ J 82 3 = I 82 3 ∧ J 82 7 = I 82 7 ∧ J 82 6 = I 82 6 ∧ J 25 0 = I 25 0 ∧ J 25 1 = I 25 1 := by
  refine ⟨h 2 6 ?_ ?_ ?_ ?_ ?_ ?_ ?_ ?_ ?_ ?_, h 82 3 ?_ ?_ ?_ ?_ ?_ ?_ ?_ ?_ ?_ ?_, h 82 7 ?_ ?_ ?_ ?_ ?_ ?_ ?_ ?_ ?_ ?_, h 82 6 ?_ ?_ ?_ ?_ ?_ ?_ ?_ ?_ ?_ ?_, h 25 0 ?_ ?_ ?_ ?_ ?_ ?_ ?_ ?_ ?_ ?_, h 25 1 ?_ ?_ ?_ ?_ ?_ ?_ ?_ ?_ ?_ ?_⟩
  all_goals omega
theorem FRn_f {I J : Nat → Nat → Int} (h : FRn I J) {a : Nat} (ha : MN a 2 = true) (ha2 : ¬ a = 25) : J a = I a := funext fun j => by
  obtain ⟨q1, q2, q3, q4, q5, q6, q7, q8, q9, q10⟩ := MN_c ha
  exact h a j q1 q2 q3 q4 q5 (fun q => ha2 q.1) q7 q8 q9 q10
section N3
variable {d : Nat} {I : Nat → Nat → Int} {sp rt : Nat} {tt : Nat → Nat} {z : Zs}
theorem S_109a {r : Nat} (h : r < 150) {X : Nat → Nat → Int} {o : Int} : Call PG (d + 1) 109 [(2, 25), (0, (r : Int)), (0, o)] (X, RF sp rt tt z.1, z) = some (none, (up2 X 32 r (if o = 0 then 1 else 2), RF sp rt tt z.1, z)) := by
  refine (K_109 ..).trans ?_
  refine (T_109_0 ..).trans ?_
  by_cases c : o = 0
  · rw [if_pos c]; exact ci_t c (ci_t (by omega) rfl)
  · rw [if_neg c]; exact ci_f c (ci_t (by omega) rfl)
theorem S_116 {r : Nat} (hn : GN0 I) (hk : GK I) (hr : r < (I 25 1).toNat) (hd : ¬ I 32 r = 0) (hp2 : I 2 6 ≤ 12) : ∃ J, Call PG (d + 5) 116 [(2, 38), (2, 25), (0, (r : Int))] (I, RF sp rt tt z.1, z) = some (some (0, LVt I r), (J, RF sp rt tt z.1, z)) ∧ FRn I J ∧ J 37 = I 37 ∧ GK J := by
  obtain ⟨⟨g1, g2⟩, g3, g4, g5, g6, g7, g8, g9, g10⟩ := hn
  have nv := g7.1.1 r hr
  have hpit := (g6 (I 119 r).toNat (by omega)).1
  have r150 : r < 150 := by omega
  have d9 := (g9 r hr).2.2
  have hf := g10 (I 33 (I 119 r).toNat).toNat (by omega)
  rw [show (((I 33 (I 119 r).toNat).toNat : Nat) : Int) = I 33 (I 119 r).toNat by omega] at hf
  obtain ⟨p, hpp⟩ : ∃ p, p = I 33 (I 119 r).toNat := ⟨_, rfl⟩
  rw [← hpp] at hpit hf
  have h59 := S_59 (d := d) (I := trn I r) (sp := sp) (rt := rt) (tt := tt) (z := z) (A := I 119) (B := I 120) (P := (I 25 0).toNat) (m := (I 25 1).toNat) (p := p) g7 (by show I 25 1 = _; omega) (by omega) (fun r hr => (g9 r hr).2.1) (fun r hr => (g9 r hr).1) hf
  obtain ⟨J, h1, h2, h3, h4⟩ := h59
  have hb2 : (if bz (¬ I 32 r = 1) = 0 then (1 : Int) else 2) = I 32 r := by
    by_cases c : I 32 r = 1
    · rw [bz_f (fun w => w c), if_pos rfl, c]
    · rw [bz_t c, if_neg (by decide)]; omega
  have e60 := fun (X : Nat → Nat → Int) (hX : CN (I 119) (I 120) (I 25 0).toNat (I 25 1).toNat (X 27) (X 28) (X 29)) => S_60 (d := d + 3) (I := X) (sp := sp) (rt := rt) (tt := tt) (z := z) hX hr
  have hJ33 : J 33 = I 33 := FRc_f h2 (by decide) (by decide) (by decide) (by decide) (by decide) (by decide)
  have hJ27 : CN (I 119) (I 120) (I 25 0).toNat (I 25 1).toNat (J 27) (J 28) (J 29) := CN_fr (I := pc (trn I r) 42 (J 42)) g7 h2
  have run1 : Call PG (d + 5) 116 [(2, 38), (2, 25), (0, (r : Int))] (I, RF sp rt tt z.1, z) = some (some (0, LVt I r), (up2 (up2 J 32 r (I 32 r)) 44 p.toNat (-2), RF sp rt tt z.1, z)) := by
    refine (K_116 ..).trans ?_
    refine (T_116_0 ..).trans ?_
    refine bd_t (S_62 (by omega)) ?_
    refine (T_116_5 ..).trans ?_
    rw [Int.toNat_natCast]
    have tail : ∀ x3 : Int, x3 = bz (¬ I 32 r = 1) → Run PG (Call PG (d + 4)) 116 20 [(2, 38), (2, 25), (0, (r : Int)), (0, x3), (9, 0)] [] (trn I r, RF sp rt tt z.1, z) (0, 0) = some (some (0, LVt I r), (up2 (up2 J 32 r (I 32 r)) 44 p.toNat (-2), RF sp rt tt z.1, z)) := by
      intro x3 hx3
      refine (T_116_20 ..).trans ?_
      refine bd_t (e60 (trn I r) g7) ?_
      refine (T_116_27 ..).trans ?_
      rw [show trn I r 33 (I 119 r).toNat = p from hpp.symm]
      refine bd_t h1 ?_
      refine (T_116_30 ..).trans ?_
      refine bd_t (S_109a r150) ?_
      refine (T_116_38 ..).trans ?_
      rw [hx3, hb2]
      refine bd_t (e60 (up2 J 32 r (I 32 r)) hJ27) ?_
      refine (T_116_44 ..).trans ?_
      rw [show up2 J 32 r (I 32 r) 33 (I 119 r).toNat = p by rw [up2_ne (by decide), hJ33]; exact hpp.symm]
      refine bd_t (S_105 (by omega)) ?_
      refine (T_116_47 ..).trans ?_
      rw [hpp]
      rfl
    by_cases c : I 32 r = 1
    · refine ci_bt (fun w => w c) ?_
      refine bd_t (S_109a r150) ?_
      rw [show (up2 I 32 r (if (1 : Int) = 0 then 1 else 2)) = trn I r by unfold trn; rw [if_neg (by decide), if_pos c]]
      exact tail _ rfl
    · refine ci_bf c ?_
      refine bd_t (S_109a r150) ?_
      rw [show (up2 I 32 r (if (0 : Int) = 0 then 1 else 2)) = trn I r by unfold trn; rw [if_pos rfl, if_neg c]]
      exact tail _ rfl
  have hF : FRn I (up2 (up2 J 32 r (I 32 r)) 44 p.toNat (-2)) := fun a j q1 q2 q3 q4 q5 q6 q7 q8 q9 q10 => by
    rw [up2_ne q9, up2_def]
    by_cases c : a = 32 ∧ j = r
    · rw [if_pos c, c.1, c.2]
    · rw [if_neg c, h2 a j q1 q2 q3 q4 q5 q6, pc_ne q8]
      unfold trn
      rw [up2_def, if_neg c]
  have hM := FRn_N hF
  refine ⟨_, run1, hF, ?_, ?_⟩
  · funext j
    rw [up2_ne (by decide), up2_ne (by decide), h2 37 j (by decide) (by decide) (by decide) (by decide) (by decide) (by omega)]
    rfl
  · have e37 : ∀ j, up2 (up2 J 32 r (I 32 r)) 44 p.toNat (-2) 37 j = I 37 j := fun j => by
      rw [up2_ne (by decide), up2_ne (by decide), h2 37 j (by decide) (by decide) (by decide) (by decide) (by decide) (by omega)]
      rfl
    have e44 : ∀ j, up2 (up2 J 32 r (I 32 r)) 44 p.toNat (-2) 44 j = if j = p.toNat then -2 else I 44 j := fun j => by
      rw [up2_at, up2_ne (by decide), h2 44 j (by decide) (by decide) (by decide) (by decide) (by decide) (by omega)]
      rfl
    have e42 : ∀ j, up2 (up2 J 32 r (I 32 r)) 44 p.toNat (-2) 42 j = J 42 j := fun j => by rw [up2_ne (by decide), up2_ne (by decide)]
    obtain ⟨-, -, -, -, -, e25⟩ := FRn_all hF
    have e33 := FRn_f hF (a := 33) (by decide) (by decide)
    have e119 := FRn_f hF (a := 119) (by decide) (by decide)
    constructor
    · intro q hq
      rw [e37, FWc_m hM]
      exact hk.1 q hq
    · intro q hq
      rw [e44, e25, e33, e119, LVc_m hM]
      by_cases w : q = p.toNat
      · rw [if_pos w]; exact Or.inl rfl
      · rw [if_neg w]
        rcases hk.2 q hq with u | ⟨u1, u2⟩
        · exact Or.inl u
        · refine Or.inr ⟨u1, fun r' hr' e => ?_⟩
          rw [e42, ARc_m hM, h4 r' hr' (fun v => w (by
            have v : I 33 (I 119 r').toNat = p := v
            omega))]
          exact u2 r' hr' e
theorem o_trial (r : Int) (hh : InvS I) (hn : GN0 I) (hk : GK I) : OpN 115 292 [(0, r)] I sp rt tt z := by
  have p1 := hh.2.1.1
  have hn0 := hn
  obtain ⟨⟨g1, g2⟩, g3, g4, g5, g6, g7, g8, g9, g10⟩ := hn
  by_cases c : 0 ≤ r ∧ r < I 25 1
  · obtain ⟨r, rfl⟩ := Int.eq_ofNat_of_zero_le c.1
    have hr : r < (I 25 1).toNat := by omega
    have nv := g7.1.1 r hr
    have hpit := (g6 (I 119 r).toNat (by omega)).1
    have d9 := (g9 r hr).2.2
    by_cases cd : I 32 r = 0
    · refine ⟨-2, I, I, ?_, ?_, hh, ⟨hn0, hk⟩, rfl⟩
      · refine (K_115 ..).trans ?_
        refine (T_115_0 ..).trans ?_
        refine bd_t (S_107 (by omega)) ?_
        refine (T_115_8 ..).trans ?_
        exact ci_bt (fun q => q.2.2 cd) rfl
      · refine (K_292 ..).trans ?_
        refine (T_292_0 ..).trans ?_
        refine bd_t (S_288 (by omega)) ?_
        refine (T_292_5 ..).trans ?_
        refine ci_bf (by omega) ?_
        refine ci_t (by omega) ?_
        rw [Int.toNat_natCast]
        exact ci_t (by omega) rfl
    · obtain ⟨J, j1, j2, j3, j4⟩ := S_116 (d := 294) (sp := sp) (rt := rt) (tt := tt) (z := z) hn0 hk hr cd p1.2.2
      have hM := FRn_N j2
      have nJ := GN0_m hM hn0
      obtain ⟨e2, e82, e7, e6, -, -⟩ := FRn_all j2
      have e114 := (FRn_f j2 (a := 114) (by decide) (by decide)).trans (funext g3.1)
      have e119 := FRn_f j2 (a := 119) (by decide) (by decide)
      have e122 := FRn_f j2 (a := 122) (by decide) (by decide)
      obtain ⟨K, k1, k2⟩ := S_254n (d := 294) (sp := sp) (rt := rt) (tt := tt) (z := z) (p := I 33 (I 119 r).toNat) (t := (r : Int)) nJ (by omega) (by omega)
      refine ⟨LVt I r, J, K, ?_, ?_, InvS_m (FRn_I (FRn_t j2 (FRn_m k2))) hh, ⟨GN0_m (FRn_N (FRn_m k2)) nJ, GK_m k2 j4⟩, FRn_X (FRn_t j2 (FRn_m k2))⟩
      · refine (K_115 ..).trans ?_
        refine (T_115_0 ..).trans ?_
        refine bd_t (S_107 (by omega)) ?_
        refine (T_115_8 ..).trans ?_
        refine ci_bf ⟨c.1, c.2, cd⟩ ?_
        exact bd_t j1 (T_115_23 ..)
      · refine (K_292 ..).trans ?_
        refine (T_292_0 ..).trans ?_
        refine bd_t (S_288 (by omega)) ?_
        refine (T_292_5 ..).trans ?_
        refine ci_bf (by omega) ?_
        refine ci_t (by omega) ?_
        rw [Int.toNat_natCast, e122, e119, e114]
        refine ci_f (by omega) ?_
        refine ci_t (by omega) ?_
        refine ci_t (by omega) ?_
        refine bd_t k1 ?_
        refine (T_292_33 ..).trans ?_
        refine eqv ?_
        rw [LVo_m hM, ok2_m hM]
        exact LVo_cg g7.1.1 (ok_trn hn0 cd)
  · refine ⟨-2, I, I, ?_, ?_, hh, ⟨hn0, hk⟩, rfl⟩
    · refine (K_115 ..).trans ?_
      refine (T_115_0 ..).trans ?_
      refine bd_t (S_107 (by omega)) ?_
      refine (T_115_8 ..).trans ?_
      exact ci_bt (fun q => c ⟨q.1, q.2.1⟩) rfl
    · refine (K_292 ..).trans ?_
      repeat' (first | refine ci_bt (by omega) ?_ | refine ci_bf (by omega) ?_ | refine ite_b01 ?_ | refine ci_b (fun _ => ?_) (fun _ => ?_) | refine ci_t (by omega) ?_ | refine ci_f (by omega) ?_ | refine ite_t (by omega) ?_ | refine ite_f (by omega) ?_ | refine bd_t (S_288 (by omega)) ?_ | refine (T_292_0 ..).trans ?_ | refine (T_292_5 ..).trans ?_ | refine (T_292_33 ..).trans ?_ | refine ci_c (fun _ => ?_) (fun _ => ?_))
      all_goals first | rfl | (exfalso; omega)
def WFo (I : Nat → Nat → Int) (p : Int) (r : Nat) (s : Int × Int) : Int × Int := if ¬ I 32 r = 0 ∧ I 33 (I 119 r).toNat = p ∧ (s.1 = -1 ∨ LVt I r < s.2) then ((r : Int), LVt I r) else s
theorem o_worst (p : Int) (hh : InvS I) (hn : GN0 I) (hk : GK I) : OpN 117 293 [(0, p)] I sp rt tt z := by
  have p1 := hh.2.1.1
  have hn0 := hn
  obtain ⟨⟨g1, g2⟩, g3, g4, g5, g6, g7, g8, g9, g10⟩ := hn
  by_cases c : 0 ≤ p ∧ p < I 2 6
  · have keyc : ∀ (k r : Nat) (s : Int × Int) (J : Nat → Nat → Int) (d6 : AV), r + k = (I 25 1).toNat → FRn I J → GK J → (itr (WFo I p) r (-1, 0) = s) → dl d6 → ∃ J', Run PG (Call PG 298) 118 8 [(2, 38), (2, 25), (0, p), (0, s.1), (0, s.2), (0, (r : Int)), d6] [] (J, RF sp rt tt z.1, z) (0, 0) = some (some (0, (itr (WFo I p) (I 25 1).toNat (-1, 0)).1), (J', RF sp rt tt z.1, z)) ∧ FRn I J' ∧ GK J' := by
      intro k
      induction k with
      | zero =>
        intro r s J d6 h1 hJ hkJ hs h6
        obtain ⟨-, -, -, -, -, e25⟩ := FRn_all hJ
        have hr : r = (I 25 1).toNat := by omega
        refine ⟨J, (T_118_8 (hx6 := h6) ..).trans (ci_f (by omega) ?_), hJ, hkJ⟩
        rw [← hr, hs]
      | succ k ih =>
        intro r s J d6 h1 hJ hkJ hs h6
        have hr : r < (I 25 1).toNat := by omega
        have r150 : 0 ≤ (r : Int) ∧ (r : Int) < 150 := by omega
        have hM := FRn_N hJ
        have nJ := GN0_m hM hn0
        obtain ⟨e2, e82, e7, e6, e250, e25⟩ := FRn_all hJ
        have e32 := FRn_f hJ (a := 32) (by decide) (by decide)
        have e33 := FRn_f hJ (a := 33) (by decide) (by decide)
        have e119 := FRn_f hJ (a := 119) (by decide) (by decide)
        have hst : itr (WFo I p) (r + 1) (-1, 0) = WFo I p r s := by rw [← hs]; rfl
        have e1 : ∀ _ : Unit, w32 ((r : Int) + 1) = ((r + 1 : Nat) : Int) := fun _ => ws_n (by omega)
        have pre : ∀ R, Run PG (Call PG 298) 118 23 [(2, 38), (2, 25), (0, p), (0, s.1), (0, s.2), (0, (r : Int)), d6] [(0, bz (0 ≤ (r : Int) ∧ (r : Int) < J 25 1 ∧ ¬ J 32 (r : Int).toNat = 0))] (J, RF sp rt tt z.1, z) (0, 0) = R → Run PG (Call PG 298) 118 8 [(2, 38), (2, 25), (0, p), (0, s.1), (0, s.2), (0, (r : Int)), d6] [] (J, RF sp rt tt z.1, z) (0, 0) = R := fun R hR => (T_118_8 (hx6 := h6) ..).trans (ci_t (by omega) (bd_t (S_107 (by omega)) hR))
        by_cases cd : I 32 r = 0
        · obtain ⟨J', r1, r2, r3⟩ := ih (r + 1) s J d6 (by omega) hJ hkJ (by rw [hst]; exact if_neg (fun q => q.1 cd)) h6
          refine ⟨J', pre _ ((T_118_23 (hx6 := h6) ..).trans (ci_bt (fun q => q.2.2 (by rw [e32]; exact cd)) ?_)), r2, r3⟩
          rw [e1 ()]; exact r1
        · have cJ : 0 ≤ (r : Int) ∧ (r : Int) < J 25 1 ∧ ¬ J 32 (r : Int).toNat = 0 := ⟨by omega, by omega, by rw [e32]; exact cd⟩
          have s60 := S_60 (d := 297) (I := J) (sp := sp) (rt := rt) (tt := tt) (z := z) nJ.2.2.2.2.2.1 (r := r) (by omega)
          rw [e33, e119] at s60
          by_cases cp : I 33 (I 119 r).toNat = p
          · obtain ⟨J1, j1, j2, j3, j4⟩ := S_116 (d := 293) (I := J) (sp := sp) (rt := rt) (tt := tt) (z := z) (r := r) nJ hkJ (by omega) (by rw [e32]; exact cd) (by omega)
            rw [LVt_m hM] at j1
            by_cases cw : s.1 = -1 ∨ LVt I r < s.2
            · obtain ⟨J', r1, r2, r3⟩ := ih (r + 1) ((r : Int), LVt I r) J1 (0, LVt I r) (by omega) (FRn_t hJ j2) j4 (by rw [hst]; exact if_pos ⟨cd, cp, cw⟩) (dl0 _)
              refine ⟨J', pre _ ((T_118_23 (hx6 := h6) ..).trans (ci_bf cJ (bd_t s60 ((T_118_32 (hx6 := h6) ..).trans (ci_t cp (bd_t j1 ((T_118_43 (hx6 := h6) ..).trans ?_))))))), r2, r3⟩
              rw [e1 ()]
              by_cases c3 : s.1 = -1
              · exact ci_t c3 r1
              · exact ci_f c3 (ci_t (by rcases cw with q | q; exact absurd q c3; exact q) r1)
            · obtain ⟨J', r1, r2, r3⟩ := ih (r + 1) s J1 (0, LVt I r) (by omega) (FRn_t hJ j2) j4 (by rw [hst]; exact if_neg (fun q => cw q.2.2)) (dl0 _)
              refine ⟨J', pre _ ((T_118_23 (hx6 := h6) ..).trans (ci_bf cJ (bd_t s60 ((T_118_32 (hx6 := h6) ..).trans (ci_t cp (bd_t j1 ((T_118_43 (hx6 := h6) ..).trans ?_))))))), r2, r3⟩
              rw [e1 ()]
              exact ci_f (fun q => cw (Or.inl q)) (ci_f (fun q => cw (Or.inr q)) r1)
          · obtain ⟨J', r1, r2, r3⟩ := ih (r + 1) s J d6 (by omega) hJ hkJ (by rw [hst]; exact if_neg (fun q => cp q.2.1)) h6
            refine ⟨J', pre _ ((T_118_23 (hx6 := h6) ..).trans (ci_bf cJ (bd_t s60 ((T_118_32 (hx6 := h6) ..).trans (ci_f cp ?_))))), r2, r3⟩
            rw [e1 ()]; exact r1
    obtain ⟨J, j1, j2, j3⟩ := keyc (I 25 1).toNat 0 (-1, 0) I _ (by omega) FRn_r hk rfl dl9
    have hMJ := FRn_N j2
    have nJ := GN0_m hMJ hn0
    have keyr : ∀ (k r : Nat) (s : Int × Int) (K : Nat → Nat → Int) (d5 : AV), r + k = (I 25 1).toNat → FRr J K → (itr (WFo I p) r (-1, 0) = s) → dl d5 → ∃ K', Run PG (Call PG 299) 293 17 [(2, 82), (0, p), (0, s.1), (0, s.2), (0, (r : Int)), d5] [] (K, RF sp rt tt z.1, z) (0, 0) = some (some (0, (itr (WFo I p) (I 25 1).toNat (-1, 0)).1), (K', RF sp rt tt z.1, z)) ∧ FRr J K' := by
      intro k
      induction k with
      | zero =>
        intro r s K d5 h1 hK hs h5
        obtain ⟨-, -, e7, -, -, -⟩ := FRn_all (FRn_t j2 (FRn_m hK))
        have hr : r = (I 25 1).toNat := by omega
        refine ⟨K, (T_293_17 (hx5 := h5) ..).trans (ci_f (by omega) ?_), hK⟩
        rw [← hr, hs]
      | succ k ih =>
        intro r s K d5 h1 hK hs h5
        have hr : r < (I 25 1).toNat := by omega
        have r150 : 0 ≤ (r : Int) ∧ (r : Int) < 150 := by omega
        have hJ := FRn_t j2 (FRn_m hK)
        have hM := FRn_N hJ
        have nK := GN0_m hM hn0
        obtain ⟨e2, e82, e7, e6, e250, e25⟩ := FRn_all hJ
        have e122 := FRn_f hJ (a := 122) (by decide) (by decide)
        have e114 := (FRn_f hJ (a := 114) (by decide) (by decide)).trans (funext g3.1)
        have e119 := FRn_f hJ (a := 119) (by decide) (by decide)
        have nv := g7.1.1 r hr
        have d9 := (g9 r hr).2.2
        have hst : itr (WFo I p) (r + 1) (-1, 0) = WFo I p r s := by rw [← hs]; rfl
        have e1 : ∀ _ : Unit, w32 ((r : Int) + 1) = ((r + 1 : Nat) : Int) := fun _ => ws_n (by omega)
        have hlt : (r : Int) < K 82 7 := by omega
        by_cases cd : I 32 r = 0
        · obtain ⟨K', r1, r2⟩ := ih (r + 1) s K d5 (by omega) hK (by rw [hst]; exact if_neg (fun q => q.1 cd)) h5
          refine ⟨K', (T_293_17 (hx5 := h5) ..).trans (ci_t hlt (ci_t r150 (ci_t (by rw [e122, Int.toNat_natCast]; omega) ?_))), r2⟩
          rw [e1 ()]; exact r1
        · have c122 : ¬ K 122 (r : Int).toNat = 0 := by rw [e122, Int.toNat_natCast]; omega
          have c119 : 0 ≤ K 119 (r : Int).toNat ∧ K 119 (r : Int).toNat < 80 := by rw [e119, Int.toNat_natCast]; omega
          by_cases cp : I 33 (I 119 r).toNat = p
          · have cp2 : K 114 (K 119 (r : Int).toNat).toNat = p := by rw [e119, e114, Int.toNat_natCast]; exact cp
            obtain ⟨K1, k1, k2⟩ := S_254n (d := 294) (I := K) (sp := sp) (rt := rt) (tt := tt) (z := z) (p := p) (t := (r : Int)) nK (by omega) (by omega)
            have ev : LVo K (ok2 K r) p = LVt I r := by
              rw [LVo_m hM, ok2_m hM, ← cp]
              exact LVo_cg g7.1.1 (ok_trn hn0 cd)
            rw [ev] at k1
            by_cases cw : s.1 = -1 ∨ LVt I r < s.2
            · obtain ⟨K', r1, r2⟩ := ih (r + 1) ((r : Int), LVt I r) K1 (0, LVt I r) (by omega) (FRr_t hK k2) (by rw [hst]; exact if_pos ⟨cd, cp, cw⟩) (dl0 _)
              refine ⟨K', (T_293_17 (hx5 := h5) ..).trans (ci_t hlt (ci_t r150 (ci_f c122 (ci_t r150 (ci_t c119 (ci_t cp2 (bd_t k1 ((T_293_62 (hx5 := h5) ..).trans ?_)))))))), r2⟩
              rw [e1 ()]
              by_cases c3 : s.1 = -1
              · exact ci_t c3 r1
              · exact ci_f c3 (ci_t (by rcases cw with q | q; exact absurd q c3; exact q) r1)
            · obtain ⟨K', r1, r2⟩ := ih (r + 1) s K1 (0, LVt I r) (by omega) (FRr_t hK k2) (by rw [hst]; exact if_neg (fun q => cw q.2.2)) (dl0 _)
              refine ⟨K', (T_293_17 (hx5 := h5) ..).trans (ci_t hlt (ci_t r150 (ci_f c122 (ci_t r150 (ci_t c119 (ci_t cp2 (bd_t k1 ((T_293_62 (hx5 := h5) ..).trans ?_)))))))), r2⟩
              rw [e1 ()]
              exact ci_f (fun q => cw (Or.inl q)) (ci_f (fun q => cw (Or.inr q)) r1)
          · have cp2 : ¬ K 114 (K 119 (r : Int).toNat).toNat = p := by rw [e119, e114, Int.toNat_natCast]; exact cp
            obtain ⟨K', r1, r2⟩ := ih (r + 1) s K d5 (by omega) hK (by rw [hst]; exact if_neg (fun q => cp q.2.1)) h5
            refine ⟨K', (T_293_17 (hx5 := h5) ..).trans (ci_t hlt (ci_t r150 (ci_f c122 (ci_t r150 (ci_t c119 (ci_f cp2 ?_)))))), r2⟩
            rw [e1 ()]; exact r1
    obtain ⟨K, k1, k2⟩ := keyr (I 25 1).toNat 0 (-1, 0) J _ (by omega) FRr_r rfl dl9
    obtain ⟨e2, e82, -, -, -, -⟩ := FRn_all j2
    refine ⟨(itr (WFo I p) (I 25 1).toNat (-1, 0)).1, J, K, ?_, ?_, InvS_m (FRn_I (FRn_t j2 (FRn_m k2))) hh, ⟨GN0_m (FRn_N (FRn_m k2)) nJ, GK_m k2 j3⟩, FRn_X (FRn_t j2 (FRn_m k2))⟩
    · exact (K_117 ..).trans ((T_117_0 ..).trans (bd_t S_18 ((T_117_8 ..).trans (ci_bf c (bd_t ((K_118 ..).trans ((T_118_0 ..).trans j1)) (T_117_23 ..))))))
    · exact (K_293 ..).trans ((T_293_0 ..).trans (bd_t (S_212 (by omega)) ((T_293_5 ..).trans (ci_bf (by omega) k1))))
  · refine ⟨-1, I, I, ?_, ?_, hh, ⟨hn0, hk⟩, rfl⟩
    · exact (K_117 ..).trans ((T_117_0 ..).trans (bd_t S_18 ((T_117_8 ..).trans (ci_bt c rfl))))
    · exact (K_293 ..).trans ((T_293_0 ..).trans (bd_t (S_212 (by omega)) ((T_293_5 ..).trans (ci_bt (by omega) rfl))))
end N3

