/-! counts, holds: both answer alike -/
section OH0
variable {d : Nat} {I : Nat → Nat → Int} {sp rt : Nat} {tt : Nat → Nat} {z : Zs} {c L : Nat}
theorem FZ_rows {J : Nat → Nat → Int} (h : FZ I J) {i : Nat} : (∀ k, 1 ≤ k → k ≤ 9 → J (tc i + k) = I (tc i + k)) ∧ (∀ a, 94 ≤ a → a ≤ 107 → J a = I a) ∧ ∀ j, ¬ j = 13 → J (tc i) j = I (tc i) j := by
  have htc := tc_d i
  refine ⟨fun k h1 h2 => funext (fun j => h _ _ (by omega)), fun a h1 h2 => funext (fun j => h _ _ (by omega)), fun j hj => h _ _ (by omega)⟩
theorem TXf_Z {J : Nat → Nat → Int} (h : FZ I J) {i m : Nat} (H : TXf I L i m) : TXf J L i m := by
  obtain ⟨r1, r2, r3⟩ := FZ_rows h (i := i)
  obtain ⟨m1, m2, m3, m4⟩ := H
  refine ⟨m1, ⟨(r3 5 (by decide)).trans m2.1, by rw [r2 97 (by decide) (by decide)]; exact m2.2⟩, ⟨by rw [r2 94 (by decide) (by decide), r3 0 (by decide)]; exact m3.1, by rw [r2 95 (by decide) (by decide), r3 1 (by decide)]; exact m3.2.1, by rw [r2 96 (by decide) (by decide), r3 2 (by decide)]; exact m3.2.2⟩, fun j hj => ?_⟩
  have w := m4 j hj
  unfold CLf at w ⊢
  rw [r1 1 (by decide) (by decide), r1 2 (by decide) (by decide), r1 3 (by decide) (by decide), r1 4 (by decide) (by decide), r1 5 (by decide) (by decide), r1 6 (by decide) (by decide), r1 7 (by decide) (by decide), r1 8 (by decide) (by decide), r1 9 (by decide) (by decide), r2 98 (by decide) (by decide), r2 99 (by decide) (by decide), r2 100 (by decide) (by decide), r2 101 (by decide) (by decide), r2 102 (by decide) (by decide), r2 103 (by decide) (by decide), r2 104 (by decide) (by decide), r2 105 (by decide) (by decide), r2 106 (by decide) (by decide), r2 107 (by decide) (by decide)]
  exact w
theorem TV_Z {J : Nat → Nat → Int} (h : FZ I J) (H : TV I tt z c L) : TV J tt z c L := ⟨H.1, ⟨(h 9 1 (by decide)).trans H.2.1.1, (h 82 5 (by decide)).trans H.2.1.2⟩, H.2.2.1, H.2.2.2.1, fun i hi => by
  obtain ⟨m, hm⟩ := H.2.2.2.2 i hi
  exact ⟨m, TXf_Z h hm⟩⟩
theorem STK_Z {J : Nat → Nat → Int} (h : FZ I J) {p day : Int} : ∀ (i : Nat) (S : SB), STK J p day i S = STK I p day i S := by
  have r2 := (FZ_rows h (i := 0)).2.1
  have hj : ∀ i j S, sj J i j S = sj I i j S := fun i j S => by
    unfold sj
    rw [r2 99 (by decide) (by decide), r2 100 (by decide) (by decide), r2 101 (by decide) (by decide), r2 94 (by decide) (by decide)]
  have hs : ∀ i u j S, sjs J i u j S = sjs I i u j S := by
    intro i u
    induction u with
    | zero => exact fun _ _ => rfl
    | succ u ih =>
      intro j S
      show sjs J i u (j + 1) (sj J i j S) = sjs I i u (j + 1) (sj I i j S)
      rw [ih, hj]
  intro i
  induction i with
  | zero => exact fun _ => rfl
  | succ i ih =>
    intro S
    have hf : forP J p day i ↔ forP I p day i := by
      unfold forP
      rw [r2 94 (by decide) (by decide), r2 95 (by decide) (by decide), r2 96 (by decide) (by decide)]
    show STK J p day i _ = STK I p day i _
    rw [ih]
    by_cases q : forP I p day i
    · rw [if_pos q, if_pos (hf.2 q), hs, r2 97 (by decide) (by decide)]
    · rw [if_neg q, if_neg (fun w => q (hf.1 w))]
/-- the clause of the class -/
theorem S_80 (h : TV I tt z c L) {e : FE} {J : Nat → Nat → Int} (hJ : FZ I J) (he : ∀ k, k < 12 → L.testBit k = true → J 10 k = e k) {i j m : Nat} (hi : i < c) (hm : TXf I L i m) (hj : j < m) : ∃ K, Call PG (d + 3) 80 [(2, 9), (0, (i : Int)), (0, (j : Int))] (J, RF sp rt tt z.1, z) = some (some (0, cv I L i j e), (K, RF sp rt tt z.1, z)) ∧ ∀ a j, ¬ a = 23 → K a j = J a j := by
  have hv := TV_Z hJ h
  obtain ⟨r1, r2, r3⟩ := FZ_rows hJ (i := i)
  have s55 := S_55 (d := d) (I := J) (sp := sp) (rt := rt) (tt := tt) (z := z) hv (i := (i : Int)) (j := (j : Int))
  have e97 : J 97 i = (m : Int) := by rw [r2 97 (by decide) (by decide)]; exact hm.2.1.2
  have hc := h.1
  have r11 := rf11 (sp := sp) (rt := rt) h hi
  have hx := tcL (sp := sp) (rt := rt) h hi
  have l1 : (LAY (tc i)).1 = 3 := by rw [hx.2.1]
  have t2 := hx.2.2.2.1
  have ek : J (tc i + 2) j = I 99 (12 * i + j) := by rw [r1 2 (by decide) (by decide)]; exact (hm.2.2.2 j hj).2.1
  have k1 : Call PG (d + 3) 80 [(2, 9), (0, (i : Int)), (0, (j : Int))] (J, RF sp rt tt z.1, z) = Run PG (Call PG (d + 2)) 80 6 [(2, 9), (0, (i : Int)), (0, (j : Int)), (9, 0)] [(0, 1)] (J, RF sp rt tt z.1, z) (0, 0) := by
    refine (K_80 ..).trans ((T_80_0 ..).trans (bd_t s55 ?_))
    rw [show ((i : Int)).toNat = i by omega, e97, bz_t (by omega)]
    rfl
  have t6 := T_80_6 (Call PG (d + 2)) J sp rt tt z (i : Int) (j : Int) 1
  rw [show ((i : Int)).toNat = i by omega, show ((j : Int)).toNat = j by omega] at t6
  have hL := (hm.2.2.2 j hj).1
  by_cases q1 : I 99 (12 * i + j) = 102
  · refine ⟨J, k1.trans (t6.trans (ci_f (by decide) (ci_t (by omega) (nn_t r11 (ite_t l1 (nn_t (tx_a (R := I) t2).1 (ite_t (tx_a (R := I) t2).2.1 (ci_t (tx_m (tx_a (R := I) t2).2.2 (by have := hm.1; omega)) ?_)))))))), fun _ _ _ => rfl⟩
    rw [ek]
    refine ci_t q1 ((T_80_50 ..).trans ?_)
    unfold cv
    rw [if_neg (by omega)]
  · by_cases q2 : I 99 (12 * i + j) = 120
    · refine ⟨J, k1.trans (t6.trans (ci_f (by decide) (ci_t (by omega) (nn_t r11 (ite_t l1 (nn_t (tx_a (R := I) t2).1 (ite_t (tx_a (R := I) t2).2.1 (ci_t (tx_m (tx_a (R := I) t2).2.2 (by have := hm.1; omega)) ?_)))))))), fun _ _ _ => rfl⟩
      rw [ek]
      refine ci_f q1 (ci_t q2 ((T_80_50 ..).trans ?_))
      unfold cv
      rw [if_neg (by omega)]
    · have hcc : isC (I 99 (12 * i + j)) := by omega
      obtain ⟨s, e81⟩ := C_81 (d := d) (sp := sp) (rt := rt) h hi hm hj hcc (J := J) (fun a b q1 q2 => by
        have w := r1 (a - tc i) (by omega) (by omega)
        rw [show tc i + (a - tc i) = a by omega] at w
        exact congrFun w b) he
      refine ⟨pc J 23 s, k1.trans (t6.trans (ci_f (by decide) (ci_t (by omega) (nn_t r11 (ite_t l1 (nn_t (tx_a (R := I) t2).1 (ite_t (tx_a (R := I) t2).2.1 (ci_t (tx_m (tx_a (R := I) t2).2.2 (by have := hm.1; omega)) ?_)))))))), fun a b q => pc_ne q⟩
      rw [ek]
      refine ci_f q1 (ci_f q2 (ci_t (by omega) (nn_t r11 (bd_t e81 ?_))))
      exact T_80_50 ..
theorem o_holds (i j p : Int) (hh : InvS I ∧ GN0 I ∧ GK I) (hx : GX I sp tt z.1) : OpL GX 0 54 246 [(0, i), (0, j), (0, p)] I sp rt tt z := by
  obtain ⟨c, L, hV, h95, hL⟩ := GX_TV hx
  have p1 := hh.1.2.1.1
  have hc := hV.1
  have s55 := S_55 (d := 297) (sp := sp) (rt := rt) hV (i := i) (j := j)
  have s241 := S_241 (d := 297) (I := I) (sp := sp) (rt := rt) (tt := tt) (z := z) (p := i) (by rw [hV.2.1.2]; omega)
  rw [hV.2.1.2] at s241
  have d1 : Call PG 300 54 [(2, 0), (0, i), (0, j), (0, p)] (I, RF sp rt tt z.1, z) = Run PG (Call PG 299) 54 9 [(2, 0), (0, i), (0, j), (0, p)] [(0, bz ((0 ≤ i ∧ i < (c : Int)) ∧ 0 ≤ j ∧ j < I 97 i.toNat))] (I, RF sp rt tt z.1, z) (0, 0) := (K_54 ..).trans ((T_54_0 ..).trans (bd_t s55 rfl))
  have d2 : ∀ K : Nat → Nat → Int, K = I → Call PG 300 246 [(2, 82), (0, i), (0, j), (0, p)] (K, RF sp rt tt z.1, z) = Run PG (Call PG 299) 246 5 [(2, 82), (0, i), (0, j), (0, p)] [(0, bz (0 ≤ i ∧ i < (c : Int)))] (I, RF sp rt tt z.1, z) (0, 0) := fun K e => by subst e; exact (K_246 ..).trans ((T_246_0 ..).trans (bd_t s241 rfl))
  by_cases c1 : 0 ≤ i ∧ i < (c : Int)
  · obtain ⟨n, rfl⟩ := Int.eq_ofNat_of_zero_le c1.1
    have hi : n < c := by omega
    obtain ⟨m, hm⟩ := hV.2.2.2.2 n hi
    have e97 := hm.2.1.2
    have m12 := hm.1
    by_cases c2 : 0 ≤ j ∧ j < (m : Int)
    · obtain ⟨k, rfl⟩ := Int.eq_ofNat_of_zero_le c2.1
      by_cases c3 : 0 ≤ p ∧ p < I 2 6
      · obtain ⟨K, e56, hK1, hK2, hK3⟩ := S_56 (d := 292) (sp := sp) (rt := rt) (tt := tt) (z := z) hh.1 hh.2.1 hh.2.2 c3 h95 hL
        obtain ⟨K2, e80, fK2⟩ := S_80 (d := 296) (sp := sp) (rt := rt) hV (FL_Z hK1) (e := fct I p) (fun k h1 h2 => hK3 k ⟨h1, h2⟩) hi hm (show k < m by omega)
        have Z2 : FZ I K2 := FZ_t (FL_Z hK1) (fun a b q => fK2 a b (by omega))
        have gK2 : GK K2 := GK_Z (fun a b q => fK2 a b (by omega)) hK2
        have e1 : Call PG 300 54 [(2, 0), (0, (n : Int)), (0, (k : Int)), (0, p)] (I, RF sp rt tt z.1, z) = some (some (0, cv I L n k (fct I p)), (K2, RF sp rt tt z.1, z)) := by
          refine d1.trans ((T_54_9 ..).trans ?_)
          rw [show ((n : Int)).toNat = n by omega, e97, bz_t (by omega)]
          refine ci_f (by decide) (bd_t S_18 ?_)
          refine (T_54_20 ..).trans ?_
          rw [bz_t c3]
          refine ci_f (by decide) (bd_t e56 ?_)
          refine (T_54_30 ..).trans (bd_t e80 ?_)
          exact T_54_39 ..
        obtain ⟨ok1, ok2⟩ := FZ_ok hh hx Z2 gK2
        have hA := ASK (I := K2) (p := p) ok1.1 ok1.2.1
        have e26 : K2 2 6 = I 2 6 := Z2 2 6 (by decide)
        have ef : fct K2 p = fct I p := fct_m (mkI_eq (fun a j hm => by
          have hm' := of_decide_eq_true hm
          exact Z2 a j (by omega))) (mkI_eq (fun a j hm => by
          have hm' := of_decide_eq_true hm
          exact Z2 a j (by omega)))
        have hF := FINDS_of (d := 290) (sp := sp) (rt := rt) (tt := tt) (z := z) (IW1 hA.1) hA.2.1 (p := p) (by rw [up2_ne (by decide), e26]; exact c3) up2_eq
        rw [hA.2.2, ef] at hF
        obtain ⟨J1, e247, hJ1⟩ := S_247 (d := 298) (I := K2) (sp := sp) (rt := rt) (tt := tt) (z := z) (p := p) (e := fct I p)
        have hF' : FINDS (up2 K2 82 56 p) sp rt tt z 297 (fct I p) := hF
        obtain ⟨J, e248, hJ⟩ := R_248 (d := 296) (I := I) (sp := sp) (rt := rt) (i := n) (by omega) hm (show k < m by omega) hF' (fun a b q1 q2 => (up2_ne (by omega)).trans (Z2 a b (by omega))) hJ1
        have hv2 := TV_Z Z2 hV
        have e2 : Call PG 300 246 [(2, 82), (0, (n : Int)), (0, (k : Int)), (0, p)] (K2, RF sp rt tt z.1, z) = some (some (0, cv I L n k (fct I p)), (J, RF sp rt tt z.1, z)) := by
          have s := S_241 (d := 297) (I := K2) (sp := sp) (rt := rt) (tt := tt) (z := z) (p := (n : Int)) (by rw [hv2.2.1.2]; omega)
          rw [hv2.2.1.2, bz_t c1] at s
          have e97' : K2 97 n = (m : Int) := (Z2 97 n (by omega)).trans e97
          have e823 : K2 82 3 = I 82 3 := Z2 82 3 (by decide)
          refine (K_246 ..).trans ((T_246_0 ..).trans (bd_t s ?_))
          refine (T_246_5 ..).trans (ci_f (by decide) ?_)
          rw [show ((n : Int)).toNat = n by omega, e97', w32_of (x := (m : Int) - 1) (by omega) (by omega)]
          refine ci_t (by omega) (bd_t S_209 ?_)
          refine (T_246_23 ..).trans ?_
          rw [bz_t (by omega)]
          refine ci_f (by decide) (bd_t (S_212 (by rw [e823]; omega)) ?_)
          refine (T_246_31 ..).trans ?_
          rw [e823, bz_t (by omega)]
          refine ci_f (by decide) (bd_t e247 ?_)
          refine (T_246_41 ..).trans ?_
          rw [w32_of (x := 12 * (n : Int)) (by omega) (by omega), w32_of (x := 12 * (n : Int) + (k : Int)) (by omega) (by omega), show 12 * (n : Int) + (k : Int) = ((12 * n + k : Nat) : Int) by omega]
          refine bd_t e248 ?_
          exact T_246_51 ..
        have ZJ : FZ K2 J := fun a b q => (RWo_Z hJ a b q).trans (by rw [up2_def, if_neg (by omega)])
        have gJ : GK J := GK_Z (fun a b q => (hJ.1 a b (by omega) (by omega)).trans (by rw [up2_def, if_neg (by omega)])) gK2
        obtain ⟨f1, f2⟩ := FZ_ok hh hx (FZ_t Z2 ZJ) gJ
        exact ⟨_, K2, J, e1, e2, f1, f2⟩
      · refine ⟨-1, I, I, ?_, ?_, hh, hx⟩
        · refine d1.trans ((T_54_9 ..).trans ?_)
          rw [show ((n : Int)).toNat = n by omega, e97, bz_t (by omega)]
          refine ci_f (by decide) (bd_t S_18 ?_)
          refine (T_54_20 ..).trans ?_
          rw [bz_f c3]
          exact ci_t rfl rfl
        · refine (d2 I rfl).trans ((T_246_5 ..).trans ?_)
          rw [bz_t c1, show ((n : Int)).toNat = n by omega, e97, w32_of (x := (m : Int) - 1) (by omega) (by omega)]
          refine ci_f (by decide) (ci_t (by omega) (bd_t S_209 ?_))
          refine (T_246_23 ..).trans ?_
          rw [bz_t (by omega)]
          refine ci_f (by decide) (bd_t (S_212 (by omega)) ?_)
          refine (T_246_31 ..).trans ?_
          rw [bz_f (by omega)]
          exact ci_t rfl rfl
    · refine ⟨-1, I, I, ?_, ?_, hh, hx⟩
      · refine d1.trans ((T_54_9 ..).trans ?_)
        rw [show ((n : Int)).toNat = n by omega, e97, bz_f (by omega)]
        exact ci_t rfl rfl
      · refine (d2 I rfl).trans ((T_246_5 ..).trans ?_)
        rw [bz_t c1, show ((n : Int)).toNat = n by omega, e97, w32_of (x := (m : Int) - 1) (by omega) (by omega)]
        refine ci_f (by decide) (ci_t (by omega) (bd_t S_209 ?_))
        refine (T_246_23 ..).trans ?_
        rw [bz_f (by omega)]
        exact ci_t rfl rfl
  · refine ⟨-1, I, I, ?_, ?_, hh, hx⟩
    · refine d1.trans ((T_54_9 ..).trans ?_)
      rw [bz_f (fun q => c1 q.1)]
      exact ci_t rfl rfl
    · refine (d2 I rfl).trans ((T_246_5 ..).trans ?_)
      rw [bz_f c1]
      exact ci_t rfl rfl
end OH0

