/-! calls that only ask of nets -/
theorem bfs_ok {A B : Nat → Int} {ok ok' : Nat → Bool} {m P : Nat} {f g : Nat → Int} {a : Int} (h : ∀ r, r < m → ok r = ok' r) : bfs A B ok m P f g a = bfs A B ok' m P f g a := by
  unfold bfs
  refine itr_congr (fun k S _ => ?_)
  unfold bfo
  split
  · refine itr_congr (fun r Q hr => ?_)
    unfold bst
    rw [h r hr]
  · rfl
theorem AIRO_cg {A B w : Nat → Int} {ok ok' : Nat → Bool} {m P : Nat} {dn up air : Int} (hv : NV A B m P) (h : ∀ r, r < m → ok r = ok' r) {r : Nat} (hr : r < m) : AIRO A B w ok m P dn up air r = AIRO A B w ok' m P dn up air r := by
  unfold AIRO
  rw [bfs_ok h]
  split
  · rfl
  · exact (ZZ_cg (T := fun _ => True) hv (fun _ _ => rfl) h (fun _ _ => rfl) ⟨fun _ _ => rfl, fun _ _ _ => rfl⟩).2 r hr trivial
def LVo (I : Nat → Nat → Int) (ok : Nat → Bool) (p : Int) : Int := if I 39 p.toNat = -1 then -1 else LAV (I 119) (I 33) (AIRO (I 119) (I 120) (I 26) ok (I 25 1).toNat (I 25 0).toNat (I 39 p.toNat) (I 40 p.toNat) (I 41 p.toNat)) ok (I 25 1).toNat p
theorem LVo_c {I : Nat → Nat → Int} {p : Int} : LVc I p = LVo I (ok1 I) p := rfl
theorem LVo_cg {I : Nat → Nat → Int} {ok ok' : Nat → Bool} {p : Int} (hv : NV (I 119) (I 120) (I 25 1).toNat (I 25 0).toNat) (h : ∀ r, r < (I 25 1).toNat → ok r = ok' r) : LVo I ok p = LVo I ok' p := by
  unfold LVo
  rw [LAV_cg (fun r hr _ => AIRO_cg hv h hr) h]
theorem LVo_m {I J : Nat → Nat → Int} (h : mkI MN J = mkI MN I) (ok : Nat → Bool) (p : Int) : LVo J ok p = LVo I ok p := by
  have h1 : LVo (mkI MN J) ok p = LVo J ok p := rfl
  have h2 : LVo (mkI MN I) ok p = LVo I ok p := rfl
  rw [← h1, ← h2, h]
theorem ok2_m {I J : Nat → Nat → Int} (h : mkI MN J = mkI MN I) (t : Int) : ok2 J t = ok2 I t := by
  have h1 : ok2 (mkI MN J) t = ok2 J t := rfl
  have h2 : ok2 (mkI MN I) t = ok2 I t := rfl
  rw [← h1, ← h2, h]
theorem GK_m {I J : Nat → Nat → Int} (h : FRr I J) (H : GK I) : GK J := by
  have hM := FRn_N (FRn_m h)
  have e37 : J 37 = I 37 := FRr_f h (by decide)
  have e44 : J 44 = I 44 := FRr_f h (by decide)
  have e42 : J 42 = I 42 := FRr_f h (by decide)
  have e25 : J 25 = I 25 := FRr_f h (by decide)
  have e33 : J 33 = I 33 := FRr_f h (by decide)
  have e119 : J 119 = I 119 := FRr_f h (by decide)
  constructor
  · intro p hp
    rw [e37, FWc_m hM]
    exact H.1 p hp
  · intro p hp
    rw [e44, e42, e25, e33, e119, LVc_m hM]
    rcases H.2 p hp with q | ⟨q1, q2⟩
    · exact Or.inl q
    · exact Or.inr ⟨q1, fun r hr e => by rw [ARc_m hM]; exact q2 r hr e⟩
/-- the door of road r turned -/
def trn (I : Nat → Nat → Int) (r : Nat) : Nat → Nat → Int := up2 I 32 r (if I 32 r = 1 then 2 else 1)
def LVt (I : Nat → Nat → Int) (r : Nat) : Int := LVo I (ok1 (trn I r)) (I 33 (I 119 r).toNat)
theorem LVt_m {I J : Nat → Nat → Int} (h : mkI MN J = mkI MN I) (r : Nat) : LVt J r = LVt I r := by
  have h1 : LVt (mkI MN J) r = LVt J r := rfl
  have h2 : LVt (mkI MN I) r = LVt I r := rfl
  rw [← h1, ← h2, h]
section N2
variable {d : Nat} {I : Nat → Nat → Int} {sp rt : Nat} {tt : Nat → Nat} {z : Zs}
theorem ok_none (hn : GN0 I) : ∀ r, r < (I 25 1).toNat → ok2 I (-1) r = ok1 I r := fun r hr => bool_ext (by
  have h := (hn.2.2.2.2.2.2.2.1 r hr).2.2
  unfold ok2 ok1
  rw [decide_eq_true_iff, decide_eq_true_iff]
  omega)
theorem ok_trn (hn : GN0 I) {q : Nat} (hd : ¬ I 32 q = 0) : ∀ r, r < (I 25 1).toNat → ok2 I (q : Int) r = ok1 (trn I q) r := fun r hr => bool_ext (by
  have h := (hn.2.2.2.2.2.2.2.1 r hr).2.2
  unfold ok2 ok1 trn
  rw [decide_eq_true_iff, decide_eq_true_iff, up2_at]
  by_cases c : r = q
  · subst c
    rw [if_pos rfl]
    by_cases c2 : I 32 r = 1
    · rw [if_pos c2]; omega
    · rw [if_neg c2]; omega
  · rw [if_neg c]
    omega)
theorem S_254n {p t : Int} (hn : GN0 I) (hp : 0 ≤ p ∧ p < I 2 6) (hp2 : I 2 6 ≤ 12) : ∃ J, Call PG (d + 5) 254 [(2, 82), (0, p), (0, t)] (I, RF sp rt tt z.1, z) = some (some (0, LVo I (ok2 I t) p), (J, RF sp rt tt z.1, z)) ∧ FRr I J := by
  obtain ⟨⟨g1, g2⟩, g3, g4, g5, g6, g7, g8, g9, g10⟩ := hn
  have e114 : I 114 = I 33 := funext g3.1
  have e121 : I 121 = I 26 := funext g3.2
  have f1 := g4 p.toNat (by omega)
  have f2 := g10 p.toNat (by omega)
  rw [show ((p.toNat : Nat) : Int) = p by omega] at f2
  have h := S_254 (d := d) (I := I) (sp := sp) (rt := rt) (tt := tt) (z := z) (P := (I 25 0).toNat) (m := (I 25 1).toNat) (p := p) (t := t) g7.1.1 (by omega) (by omega) (by omega) (fun r hr => by rw [e121]; exact (g9 r hr).2.1) (by
    unfold FNr
    rcases f2 with q | ⟨q1, q2, q3, q4⟩
    · left; omega
    · by_cases c : I 39 p.toNat = -1
      · left; omega
      · right
        have := f1.2.2 c
        omega)
  obtain ⟨J, h1, h2⟩ := h
  refine ⟨J, h1.trans (eqv ?_), h2⟩
  unfold LVo
  rw [f1.2.1, e114, e121]
  by_cases c : I 39 p.toNat = -1
  · rw [if_pos c, if_pos c]
  · rw [if_neg c, if_neg c, (f1.2.2 c).1, (f1.2.2 c).2]
theorem o_least (p : Int) (hh : InvS I) (hn : GN0 I) (hk : GK I) : OpN 114 291 [(0, p)] I sp rt tt z := by
  have p1 := hh.2.1.1
  by_cases c : 0 ≤ p ∧ p < I 2 6
  · obtain ⟨J, j1, j2, j3, j4, j5⟩ := S_58 (d := 294) (sp := sp) (rt := rt) (tt := tt) (z := z) hn hk c p1.2.2
    have hM := FRn_N j2
    have nJ := GN0_m hM hn
    have e2 : J 2 6 = I 2 6 := j2 2 6 (by decide) (by decide) (by decide) (by decide) (by decide) (by decide) (by decide) (by decide) (by decide) (by decide)
    have e82 : J 82 3 = I 82 3 := j2 82 3 (by decide) (by decide) (by decide) (by decide) (by decide) (by decide) (by decide) (by decide) (by decide) (by decide)
    obtain ⟨K, k1, k2⟩ := S_254n (d := 294) (sp := sp) (rt := rt) (tt := tt) (z := z) (p := p) (t := -1) nJ (by omega) (by omega)
    refine ⟨LVc I p, J, K, ?_, ?_, InvS_m (FRn_I (FRn_t j2 (FRn_m k2))) hh, ⟨GN0_m (FRn_N (FRn_m k2)) nJ, GK_m k2 j4⟩, FRn_X (FRn_t j2 (FRn_m k2))⟩
    · refine (K_114 ..).trans ?_
      repeat' (first | refine bd_t j1 ?_ | refine ci_bt (by omega) ?_ | refine ci_bf (by omega) ?_ | refine ite_b01 ?_ | refine ci_b (fun _ => ?_) (fun _ => ?_) | refine ci_t (by omega) ?_ | refine ci_f (by omega) ?_ | refine ite_t (by omega) ?_ | refine ite_f (by omega) ?_ | refine bd_t (S_18) ?_ | refine (T_114_0 ..).trans ?_ | refine (T_114_8 ..).trans ?_ | refine (T_114_23 ..).trans ?_ | refine ci_c (fun _ => ?_) (fun _ => ?_))
      all_goals rfl
    · refine (K_291 ..).trans ?_
      repeat' (first | refine bd_t k1 ?_ | refine ci_bt (by omega) ?_ | refine ci_bf (by omega) ?_ | refine ite_b01 ?_ | refine ci_b (fun _ => ?_) (fun _ => ?_) | refine ci_t (by omega) ?_ | refine ci_f (by omega) ?_ | refine ite_t (by omega) ?_ | refine ite_f (by omega) ?_ | refine bd_t (S_212 (by omega)) ?_ | refine (T_291_0 ..).trans ?_ | refine (T_291_5 ..).trans ?_ | refine (T_291_14 ..).trans ?_ | refine ci_c (fun _ => ?_) (fun _ => ?_))
      refine eqv ?_
      rw [LVo_m hM, ok2_m hM, LVo_c]
      exact LVo_cg hn.2.2.2.2.2.1.1.1 (ok_none hn)
  · refine ⟨-2, I, I, ?_, ?_, hh, ⟨hn, hk⟩, rfl⟩
    · refine (K_114 ..).trans ?_
      repeat' (first | refine ci_bt (by omega) ?_ | refine ci_bf (by omega) ?_ | refine ite_b01 ?_ | refine ci_b (fun _ => ?_) (fun _ => ?_) | refine ci_t (by omega) ?_ | refine ci_f (by omega) ?_ | refine ite_t (by omega) ?_ | refine ite_f (by omega) ?_ | refine bd_t (S_18) ?_ | refine (T_114_0 ..).trans ?_ | refine (T_114_8 ..).trans ?_ | refine (T_114_23 ..).trans ?_ | refine ci_c (fun _ => ?_) (fun _ => ?_))
      all_goals first | rfl | (exfalso; omega)
    · refine (K_291 ..).trans ?_
      repeat' (first | refine ci_bt (by omega) ?_ | refine ci_bf (by omega) ?_ | refine ite_b01 ?_ | refine ci_b (fun _ => ?_) (fun _ => ?_) | refine ci_t (by omega) ?_ | refine ci_f (by omega) ?_ | refine ite_t (by omega) ?_ | refine ite_f (by omega) ?_ | refine bd_t (S_212 (by omega)) ?_ | refine (T_291_0 ..).trans ?_ | refine (T_291_5 ..).trans ?_ | refine (T_291_14 ..).trans ?_ | refine ci_c (fun _ => ?_) (fun _ => ?_))
      all_goals first | rfl | (exfalso; omega)
theorem o_air (r : Int) (hh : InvS I) (hn : GN0 I) (hk : GK I) : OpN 112 290 [(0, r)] I sp rt tt z := by
  have p1 := hh.2.1.1
  have hn0 := hn
  obtain ⟨⟨g1, g2⟩, g3, g4, g5, g6, g7, g8, g9, g10⟩ := hn
  by_cases c : 0 ≤ r ∧ r < I 25 1
  · obtain ⟨r, rfl⟩ := Int.eq_ofNat_of_zero_le c.1
    have hr : r < (I 25 1).toNat := by omega
    have nv := g7.1.1 r hr
    have hpit := (g6 (I 119 r).toNat (by omega)).1
    obtain ⟨J, j1, j2, j3, j4, j5⟩ := S_58 (d := 293) (sp := sp) (rt := rt) (tt := tt) (z := z) hn0 hk hpit p1.2.2
    have hM := FRn_N j2
    have nJ := GN0_m hM hn0
    have e2 : J 2 6 = I 2 6 := j2 2 6 (by decide) (by decide) (by decide) (by decide) (by decide) (by decide) (by decide) (by decide) (by decide) (by decide)
    have e7 : J 82 7 = I 82 7 := j2 82 7 (by decide) (by decide) (by decide) (by decide) (by decide) (by decide) (by decide) (by decide) (by decide) (by decide)
    have e6 : J 82 6 = I 82 6 := j2 82 6 (by decide) (by decide) (by decide) (by decide) (by decide) (by decide) (by decide) (by decide) (by decide) (by decide)
    have e114 : J 114 = I 33 := (funext fun j => j2 114 j (by decide) (by decide) (by decide) (by decide) (by decide) (by omega) (by decide) (by decide) (by decide) (by decide)).trans (funext g3.1)
    have e119 : J 119 = I 119 := funext fun j => j2 119 j (by decide) (by decide) (by decide) (by decide) (by decide) (by omega) (by decide) (by decide) (by decide) (by decide)
    have nJ0 := nJ
    obtain ⟨⟨G1, G2⟩, G3, G4, G5, G6, G7, G8, G9, G10⟩ := nJ
    have e25 : J 25 0 = I 25 0 ∧ J 25 1 = I 25 1 := by omega
    have f1 := G4 (I 33 (I 119 r).toNat).toNat (by omega)
    have f2 := G10 (I 33 (I 119 r).toNat).toNat (by omega)
    rw [show (((I 33 (I 119 r).toNat).toNat : Nat) : Int) = I 33 (I 119 r).toNat by omega] at f2
    have h55 := S_255 (d := 295) (I := J) (sp := sp) (rt := rt) (tt := tt) (z := z) (P := (J 25 0).toNat) (m := (J 25 1).toNat) (p := I 33 (I 119 r).toNat) (t := -1) G7.1.1 (by omega) (by omega) (by omega) (fun q hq => by rw [G3.2 q]; exact (G9 q hq).2.1) (by
      unfold FNr
      rcases f2 with q | ⟨q1, q2, q3, q4⟩
      · left; omega
      · by_cases c : J 39 (I 33 (I 119 r).toNat).toNat = -1
        · left; omega
        · right
          have := f1.2.2 c
          omega)
    obtain ⟨K, k1, k2, k3⟩ := h55
    have v1 : ARc J (I 33 (I 119 r).toNat) r = K 127 r := by
      rw [k3 r (by omega), f1.2.1]
      unfold ARc
      by_cases c : J 39 (I 33 (I 119 r).toNat).toNat = -1
      · rw [if_pos c, if_pos c]
      · rw [if_neg c, if_neg c, (f1.2.2 c).1, (f1.2.2 c).2, show J 121 = J 26 from funext G3.2]
        exact (AIRO_cg G7.1.1 (ok_none nJ0) (by omega)).symm
    refine ⟨ARc I (I 33 (I 119 r).toNat) r, J, K, ?_, ?_, InvS_m (FRn_I (FRn_t j2 (FRn_m k2))) hh, ⟨GN0_m (FRn_N (FRn_m k2)) nJ0, GK_m k2 j4⟩, FRn_X (FRn_t j2 (FRn_m k2))⟩
    · refine (K_112 ..).trans ?_
      refine (T_112_0 ..).trans ?_
      refine bd_t S_108 ?_
      refine (T_112_8 ..).trans ?_
      refine ci_bf c ?_
      refine bd_t (v := some (0, ARc I (I 33 (I 119 r).toNat) r)) (h := (J, RF sp rt tt z.1, z)) ((K_113 ..).trans ((T_113_0 ..).trans (bd_t (S_60 g7 hr) ((T_113_7 ..).trans (bd_t j1 ((T_113_10 ..).trans (ci_t (by omega) ?_))))))) (T_112_23 ..)
      rw [Int.toNat_natCast, j5 r hr rfl]
    · refine (K_290 ..).trans ?_
      refine (T_290_0 ..).trans ?_
      refine bd_t (S_288 (by omega)) ?_
      refine (T_290_5 ..).trans ?_
      refine ci_bf (by omega) ?_
      refine ci_t (by omega) ?_
      rw [Int.toNat_natCast, e119, e114]
      refine ci_t (by omega) ?_
      refine bd_t k1 ?_
      refine (T_290_26 ..).trans ?_
      refine ci_t (by omega) ?_
      rw [Int.toNat_natCast, ← v1, ARc_m hM]
  · refine ⟨-1, I, I, ?_, ?_, hh, ⟨hn0, hk⟩, rfl⟩
    · refine (K_112 ..).trans ?_
      repeat' (first | refine ci_bt (by omega) ?_ | refine ci_bf (by omega) ?_ | refine ite_b01 ?_ | refine ci_b (fun _ => ?_) (fun _ => ?_) | refine ci_t (by omega) ?_ | refine ci_f (by omega) ?_ | refine ite_t (by omega) ?_ | refine ite_f (by omega) ?_ | refine bd_t (S_108) ?_ | refine (T_112_0 ..).trans ?_ | refine (T_112_8 ..).trans ?_ | refine (T_112_23 ..).trans ?_ | refine ci_c (fun _ => ?_) (fun _ => ?_))
      all_goals first | rfl | (exfalso; omega)
    · refine (K_290 ..).trans ?_
      repeat' (first | refine ci_bt (by omega) ?_ | refine ci_bf (by omega) ?_ | refine ite_b01 ?_ | refine ci_b (fun _ => ?_) (fun _ => ?_) | refine ci_t (by omega) ?_ | refine ci_f (by omega) ?_ | refine ite_t (by omega) ?_ | refine ite_f (by omega) ?_ | refine bd_t (S_288 (by omega)) ?_ | refine (T_290_0 ..).trans ?_ | refine (T_290_5 ..).trans ?_ | refine (T_290_26 ..).trans ?_ | refine ci_c (fun _ => ?_) (fun _ => ?_))
      all_goals first | rfl | (exfalso; omega)
end N2

