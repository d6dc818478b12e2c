/-! counts, counts: both answer alike -/
/-- how many of the first n -/
def bc (f : Nat → Bool) : Nat → Nat
  | 0 => 0
  | n + 1 => bc f n + (if f n = true then 1 else 0)
theorem bc_1 {f : Nat → Bool} {n : Nat} (h : f n = true) : bc f (n + 1) = bc f n + 1 := by
  show bc f n + (if f n = true then 1 else 0) = _
  rw [if_pos h]
theorem bc_0 {f : Nat → Bool} {n : Nat} (h : ¬ f n = true) : bc f (n + 1) = bc f n := by
  show bc f n + (if f n = true then 1 else 0) = _
  rw [if_neg h, Nat.add_zero]
theorem bc_le {f : Nat → Bool} : ∀ n, bc f n ≤ n
  | 0 => Nat.le_refl 0
  | n + 1 => by
    have := bc_le (f := f) n
    by_cases h : f n = true
    · rw [bc_1 h]; omega
    · rw [bc_0 h]; omega
theorem bc_cg {f g : Nat → Bool} : ∀ n, (∀ k, k < n → (f k = true ↔ g k = true)) → bc f n = bc g n
  | 0, _ => rfl
  | n + 1, h => by
    have e := bc_cg n (fun k hk => h k (by omega))
    by_cases q : f n = true
    · rw [bc_1 q, bc_1 ((h n (by omega)).1 q), e]
    · rw [bc_0 q, bc_0 (fun r => q ((h n (by omega)).2 r)), e]
theorem bc_z {f : Nat → Bool} {m : Nat} : ∀ n, m ≤ n → (∀ k, m ≤ k → k < n → ¬ f k = true) → bc f n = bc f m
  | 0, hm, _ => by rw [show m = 0 by omega]
  | n + 1, hm, h => by
    by_cases q : m = n + 1
    · rw [q]
    · rw [bc_0 (h n (by omega) (by omega))]
      exact bc_z n (by omega) (fun k h1 h2 => h k h1 (by omega))
theorem bc_mo {f : Nat → Bool} {m : Nat} : ∀ n, m ≤ n → bc f m ≤ bc f n
  | 0, hm => by rw [show m = 0 by omega]; exact Nat.le_refl _
  | n + 1, hm => by
    by_cases q : m = n + 1
    · rw [q]; exact Nat.le_refl _
    · have := bc_mo (f := f) n (show m ≤ n by omega)
      by_cases h : f n = true
      · rw [bc_1 h]; omega
      · rw [bc_0 h]; omega
theorem bc_ex {f : Nat → Bool} {x : Nat} : ∀ n, x < bc f n → ∃ k, k < n ∧ f k = true ∧ bc f k = x
  | 0, h => absurd h (Nat.not_lt_zero x)
  | n + 1, h => by
    by_cases q : f n = true
    · rw [bc_1 q] at h
      by_cases e : x = bc f n
      · exact ⟨n, by omega, q, e.symm⟩
      · obtain ⟨k, h1, h2, h3⟩ := bc_ex n (show x < bc f n by omega)
        exact ⟨k, by omega, h2, h3⟩
    · rw [bc_0 q] at h
      obtain ⟨k, h1, h2, h3⟩ := bc_ex n h
      exact ⟨k, by omega, h2, h3⟩
theorem nt_f : ∀ {b : Bool}, ¬ b = true → b = false
  | false, _ => rfl
  | true, h => absurd rfl h
theorem td_k {k : Nat} : Int.tdiv (k : Int) 12 = ((k / 12 : Nat) : Int) := rfl
theorem tm_k {k : Nat} : Int.tmod (k : Int) 12 = ((k % 12 : Nat) : Int) := rfl
theorem day_b {x : Int} (h : 0 ≤ x ∧ x ≤ 5000000) : 0 ≤ Int.tdiv x 1440 ∧ Int.tdiv x 1440 ≤ 5000 := by
  obtain ⟨n, rfl⟩ := Int.eq_ofNat_of_zero_le h.1
  have e : Int.tdiv (n : Int) 1440 = ((n / 1440 : Nat) : Int) := rfl
  rw [e]
  omega
section OC0
variable {d : Nat} {I : Nat → Nat → Int} {sp rt : Nat} {tt : Nat → Nat} {z : Zs} {c L : Nat}
/-- cell k counts: it stands in a text for the pit and is not struck -/
abbrev cntP (I : Nat → Nat → Int) (p day : Int) (S : SB) (i k : Nat) : Prop := forP I p day i ∧ ((k : Int) < I 97 i ∧ S i k = false)
theorem L_48 (h : TV I tt z c L) {p day : Int} {i m : Nat} (hi : i < c) (hm : TXf I L i m) {S : SB} {J : Nat → Nat → Int} (hJ : SCl I c S J) {f : Nat → Bool} (hf : ∀ k, k < m → (f k = true ↔ S i k = false)) : ∀ u j, j + u = m → Run PG (Call PG (d + 1)) 48 36 [(2, 9), (0, (i : Int)), (0, p), (0, day), (0, ((bc f j : Nat) : Int)), (0, (j : Int))] [] (J, RF sp rt tt z.1, z) (0, 0) = some (some (0, ((bc f m : Nat) : Int)), (J, RF sp rt tt z.1, z)) := by
  have hc := h.1
  have hx := tcL (sp := sp) (rt := rt) h hi
  have l1 : (LAY (tc i)).1 = 3 := by rw [hx.2.1]
  have r11 := rf11 (sp := sp) (rt := rt) h hi
  have e5 : J (tc i) 5 = (m : Int) := (SCl_fr hJ (Or.inl (by decide))).trans hm.2.1.1
  obtain ⟨v, hv, ev, bv⟩ := hJ.2 i hi
  have m12 := hm.1
  intro u
  induction u with
  | zero =>
    intro j hj
    rw [show j = m by omega]
    refine (T_48_36 ..).trans ?_
    rw [show ((i : Int)).toNat = i by omega]
    refine ci_t (by omega) (nn_t r11 (ite_t l1 ?_))
    rw [e5]
    exact ci_f (by omega) rfl
  | succ u ih =>
    intro j hj
    have hb := bit32 hv (show j < 12 by omega)
    have s52 := S_52 (d := d) (I := J) (sp := sp) (rt := rt) (tt := tt) (z := z) (t := tc i) (j := (j : Int)) l1
    rw [ev] at s52
    have hl := bc_le (f := f) j
    refine Eq.trans ?_ (ih (j + 1) (by omega))
    refine (T_48_36 ..).trans ?_
    rw [show ((i : Int)).toNat = i by omega]
    refine ci_t (by omega) (nn_t r11 (ite_t l1 ?_))
    rw [e5]
    refine ci_t (by omega) (ci_t (by omega) (nn_t r11 (ite_t (decide_eq_true l1) (bd_t s52 ?_))))
    by_cases q : S i j = false
    · rw [bz_f (fun r => r (hb.2 ((bv j (by omega)).trans q))), bc_1 ((hf j (by omega)).2 q)]
      refine (T_48_61 ..).trans (ci_t rfl ?_)
      rw [w_n (by omega), w_n (by omega)]
    · rw [bz_t (show ¬ ia32 (shr32 (v : Int) (j : Int)) 1 = 0 from fun r => q ((bv j (by omega)).symm.trans (hb.1 r))), bc_0 (fun r => q ((hf j (by omega)).1 r))]
      refine (T_48_61 ..).trans (ci_f (by decide) ?_)
      rw [w_n (by omega)]
theorem S_48 (h : TV I tt z c L) {p day : Int} {i m : Nat} (hi : i < c) (hm : TXf I L i m) : ∃ K, Call PG (d + 4) 48 [(2, 9), (0, (i : Int)), (0, p), (0, day)] (I, RF sp rt tt z.1, z) = some (some (0, ((bc (fun k => decide (cntP I p day (STK I p day c (fun _ _ => false)) i k)) 12 : Nat) : Int)), (K, RF sp rt tt z.1, z)) ∧ ∀ a j, ¬ (j = 13 ∧ ∃ i, i < c ∧ a = tc i) → K a j = I a j := by
  have hc := h.1
  have hx := tcL (sp := sp) (rt := rt) h hi
  have l1 : (LAY (tc i)).1 = 3 := by rw [hx.2.1]
  have r11 := rf11 (sp := sp) (rt := rt) h hi
  have s46 := S_46 (d := d + 2) (I := I) (sp := sp) (rt := rt) (tt := tt) (z := z) (p := (i : Int))
  rw [h.2.1.1, bz_t (by omega)] at s46
  have s49 := S_49 (d := d + 1) (I := I) (sp := sp) (rt := rt) (tt := tt) (z := z) (t := tc i) (p := p) (day := day) l1
  obtain ⟨m1, m2, m3, m4⟩ := hm
  rw [← m3.1, ← m3.2.1, ← m3.2.2] at s49
  have k1 : Call PG (d + 4) 48 [(2, 9), (0, (i : Int)), (0, p), (0, day)] (I, RF sp rt tt z.1, z) = Run PG (Call PG (d + 3)) 48 19 [(2, 9), (0, (i : Int)), (0, p), (0, day), (9, 0), (9, 0)] [(0, bz (forP I p day i))] (I, RF sp rt tt z.1, z) (0, 0) := by
    refine (K_48 ..).trans ((T_48_0 ..).trans (bd_t s46 ?_))
    refine (T_48_5 ..).trans ?_
    rw [show ((i : Int)).toNat = i by omega]
    exact ci_f (by decide) (ci_t (by omega) (nn_t r11 (ite_t (decide_eq_true l1) (bd_t s49 rfl))))
  by_cases hf : forP I p day i
  · obtain ⟨K, e51, hK⟩ := S_51 (d := d) (sp := sp) (rt := rt) h (p := p) (day := day)
    refine ⟨K, k1.trans ?_, hK.1⟩
    rw [bz_t hf]
    refine (T_48_19 ..).trans (ci_f (by decide) (bd_t e51 ?_))
    refine (T_48_30 ..).trans ?_
    rw [bc_z (m := m) 12 (by omega) (fun k h1 h2 r => by
      have := (of_decide_eq_true r).2.1
      have := m2.2
      omega)]
    exact L_48 (d := d + 2) h hi ⟨m1, m2, m3, m4⟩ hK (f := fun k => decide (cntP I p day (STK I p day c (fun _ _ => false)) i k)) (fun k hk => ⟨fun r => (of_decide_eq_true r).2.2, fun r => decide_eq_true ⟨hf, by have := m2.2; omega, r⟩⟩) m 0 (by omega)
  · refine ⟨I, k1.trans ?_, fun _ _ _ => rfl⟩
    rw [bz_f hf, bc_z (m := 0) 12 (by omega) (fun k h1 h2 r => hf (of_decide_eq_true r).1)]
    exact (T_48_19 ..).trans (ci_t rfl rfl)
theorem S_245 (h2 : 0 ≤ I 82 2 ∧ I 82 2 ≤ 5000000) {p : Int} {k : Nat} (hk : k < 360) {S : SB} {J : Nat → Nat → Int} (hJ : ∀ a j, ((94 ≤ a ∧ a ≤ 97) ∨ (a = 82 ∧ j = 2)) → J a j = I a j) (hS : J 109 k = if S (k / 12) (k % 12) = true then 1 else 0) : Call PG (d + 4) 245 [(2, 82), (0, (k : Int)), (0, p)] (J, RF sp rt tt z.1, z) = some (some (0, bz (cntP I p (Int.tdiv (I 82 2) 1440) S (k / 12) (k % 12))), (J, RF sp rt tt z.1, z)) := by
  have hi : k / 12 < 30 := by omega
  have j2 : J 82 2 = I 82 2 := hJ _ _ (by omega)
  have s243 := S_243 (d := d) (I := J) (sp := sp) (rt := rt) (tt := tt) (z := z) (i := k / 12) hi (by rw [j2]; exact h2) (p := p)
  have hfp : forP J p (Int.tdiv (J 82 2) 1440) (k / 12) ↔ forP I p (Int.tdiv (I 82 2) 1440) (k / 12) := by
    rw [j2]
    unfold forP
    rw [hJ 94 _ (by omega), hJ 95 _ (by omega), hJ 96 _ (by omega)]
  refine (K_245 ..).trans ((T_245_0 ..).trans ?_)
  rw [td_k, tm_k, w32_of (x := ((k / 12 : Nat) : Int)) (by omega) (by omega), show (((k / 12 : Nat) : Int)).toNat = k / 12 by omega, hJ 97 _ (by omega)]
  refine ci_t (by omega) ?_
  by_cases q1 : ((k % 12 : Nat) : Int) < I 97 (k / 12)
  · refine ci_t q1 (bd_t s243 ?_)
    refine (T_245_25 ..).trans ?_
    by_cases q2 : forP I p (Int.tdiv (I 82 2) 1440) (k / 12)
    · rw [bz_t (hfp.2 q2)]
      refine ci_f (by decide) (ci_t (by omega) ?_)
      rw [show ((k : Int)).toNat = k by omega, hS]
      by_cases q3 : S (k / 12) (k % 12) = true
      · rw [if_pos q3, bz_f (fun r => absurd (q3.symm.trans r.2.2) (by decide))]
        exact ci_f (by decide) rfl
      · rw [if_neg q3, bz_t ⟨q2, q1, nt_f q3⟩]
        exact ci_t rfl rfl
    · rw [bz_f (fun r => q2 (hfp.1 r)), bz_f (fun r => q2 r.1)]
      exact ci_t rfl rfl
  · rw [bz_f (fun r => q1 r.2.1)]
    exact ci_f q1 rfl
theorem L_240 (h2 : 0 ≤ I 82 2 ∧ I 82 2 ≤ 5000000) {p : Int} {S : SB} {J : Nat → Nat → Int} (hJ : SRl I S J) {i : Nat} (hi : i < 30) : ∀ u j, j + u = 12 → Run PG (Call PG (d + 4)) 240 31 [(2, 82), (0, (i : Int)), (0, p), (0, ((bc (fun k => decide (cntP I p (Int.tdiv (I 82 2) 1440) S i k)) j : Nat) : Int)), (0, ((12 * i + j : Nat) : Int))] [] (J, RF sp rt tt z.1, z) (0, 0) = some (some (0, ((bc (fun k => decide (cntP I p (Int.tdiv (I 82 2) 1440) S i k)) 12 : Nat) : Int)), (J, RF sp rt tt z.1, z)) := by
  intro u
  induction u with
  | zero =>
    intro j hj
    rw [show j = 12 by omega]
    refine (T_240_31 ..).trans ?_
    rw [w32_of (x := 12 * (i : Int)) (by omega) (by omega), w32_of (x := 12 * (i : Int) + 12) (by omega) (by omega)]
    exact ci_f (by omega) rfl
  | succ u ih =>
    intro j hj
    have hl := bc_le (f := fun k => decide (cntP I p (Int.tdiv (I 82 2) 1440) S i k)) j
    have s245 := S_245 (d := d) (sp := sp) (rt := rt) (tt := tt) (z := z) h2 (p := p) (k := 12 * i + j) (by omega) (S := S) (J := J) (fun a b _ => hJ.1 a b (by omega)) (hJ.2 _ (by omega))
    rw [show (12 * i + j) / 12 = i by omega, show (12 * i + j) % 12 = j by omega] at s245
    refine Eq.trans ?_ (ih (j + 1) (by omega))
    refine (T_240_31 ..).trans ?_
    rw [w32_of (x := 12 * (i : Int)) (by omega) (by omega), w32_of (x := 12 * (i : Int) + 12) (by omega) (by omega)]
    refine ci_t (by omega) (bd_t s245 ?_)
    by_cases q : cntP I p (Int.tdiv (I 82 2) 1440) S i j
    · rw [bz_t q, bc_1 (decide_eq_true q)]
      refine (T_240_51 ..).trans (ci_f (by decide) ?_)
      rw [w_n (by omega), w_n (by omega)]
      rfl
    · rw [bz_f q, bc_0 (fun r => q (of_decide_eq_true r))]
      refine (T_240_51 ..).trans (ci_t rfl ?_)
      rw [w_n (by omega), Int.add_zero, w32_of (x := ((bc (fun k => decide (cntP I p (Int.tdiv (I 82 2) 1440) S i k)) j : Nat) : Int)) (by omega) (by omega)]
      rfl
theorem o_counts (i p : Int) (hh : InvS I ∧ GN0 I ∧ GK I) (hx : GX I sp tt z.1) : OpL GX 0 45 240 [(0, i), (0, p)] I sp rt tt z := by
  obtain ⟨c, L, hV, h95, hL⟩ := GX_TV hx
  have t0 := hh.1.1.1
  have p1 := hh.1.2.1.1
  have hc := hV.1
  have hd := day_b t0.2
  have s46 := S_46 (d := 298) (I := I) (sp := sp) (rt := rt) (tt := tt) (z := z) (p := i)
  rw [hV.2.1.1] at s46
  have s241 := S_241 (d := 297) (I := I) (sp := sp) (rt := rt) (tt := tt) (z := z) (p := i) (by rw [hV.2.1.2]; omega)
  rw [hV.2.1.2] at s241
  have d1 : Call PG 300 45 [(2, 0), (0, i), (0, p)] (I, RF sp rt tt z.1, z) = Run PG (Call PG 299) 45 8 [(2, 0), (0, i), (0, p)] [(0, bz (0 ≤ i ∧ i < (c : Int)))] (I, RF sp rt tt z.1, z) (0, 0) := (K_45 ..).trans ((T_45_0 ..).trans (bd_t s46 rfl))
  have d2 : Call PG 300 240 [(2, 82), (0, i), (0, p)] (I, RF sp rt tt z.1, z) = Run PG (Call PG 299) 240 5 [(2, 82), (0, i), (0, p), (9, 0), (9, 0)] [(0, bz (0 ≤ i ∧ i < (c : Int)))] (I, RF sp rt tt z.1, z) (0, 0) := (K_240 ..).trans ((T_240_0 ..).trans (bd_t s241 rfl))
  by_cases c1 : 0 ≤ i ∧ i < (c : Int)
  · obtain ⟨n, rfl⟩ := Int.eq_ofNat_of_zero_le c1.1
    have hi : n < c := by omega
    obtain ⟨m, hm⟩ := hV.2.2.2.2 n hi
    by_cases c3 : 0 ≤ p ∧ p < I 2 6
    · obtain ⟨K, e48, fK⟩ := S_48 (d := 295) (sp := sp) (rt := rt) hV (p := p) (day := Int.tdiv (I 0 0) 1440) hi hm
      have Z : FZ I K := fun a j q => fK a j (fun r => by
        obtain ⟨r1, i, r2, r3⟩ := r
        have := tc_d i
        omega)
      have gK : GK K := GK_Z (fun a b q => fK a b (fun r => by
        obtain ⟨r1, i, r2, r3⟩ := r
        have := tc_d i
        omega)) hh.2.2
      have e1 : Call PG 300 45 [(2, 0), (0, (n : Int)), (0, p)] (I, RF sp rt tt z.1, z) = some (some (0, ((bc (fun k => decide (cntP I p (Int.tdiv (I 0 0) 1440) (STK I p (Int.tdiv (I 0 0) 1440) c (fun _ _ => false)) n k)) 12 : Nat) : Int)), (K, RF sp rt tt z.1, z)) := by
        refine d1.trans ?_
        rw [bz_t c1]
        refine (T_45_8 ..).trans (ci_f (by decide) (bd_t S_18 ?_))
        rw [bz_t c3]
        refine (T_45_19 ..).trans (ci_f (by decide) (bd_t S_47 ?_))
        rw [w32_of (x := Int.tdiv (I 0 0) 1440) (by omega) (by omega)]
        refine (T_45_34 ..).trans (bd_t e48 ?_)
        exact T_45_37 ..
      have hv2 := TV_Z Z hV
      have k2 : K 82 2 = I 0 0 := (Z 82 2 (by decide)).trans t0.1
      have k3 : K 82 3 = I 2 6 := (Z 82 3 (by decide)).trans p1.1
      have k5 : K 82 5 = (c : Int) := hv2.2.1.2
      obtain ⟨J, e242, hJ⟩ := S_242 (d := 295) (sp := sp) (rt := rt) hv2 (by rw [k2]; exact t0.2) (p := p)
      have r2 := (FZ_rows Z (i := 0)).2.1
      have hg : (fun k => decide (cntP K p (Int.tdiv (K 82 2) 1440) (STK K p (Int.tdiv (K 82 2) 1440) c (fun _ _ => false)) n k)) = fun k => decide (cntP I p (Int.tdiv (I 0 0) 1440) (STK I p (Int.tdiv (I 0 0) 1440) c (fun _ _ => false)) n k) := by
        funext k
        refine decide_eq_decide.2 ?_
        rw [k2, STK_Z Z]
        unfold cntP forP
        rw [r2 94 (by decide) (by decide), r2 95 (by decide) (by decide), r2 96 (by decide) (by decide), r2 97 (by decide) (by decide)]
      have l240 := L_240 (d := 295) (sp := sp) (rt := rt) (tt := tt) (z := z) (I := K) (by rw [k2]; exact t0.2) (p := p) hJ (i := n) (by omega) 12 0 (by omega)
      rw [hg] at l240
      have e2 : Call PG 300 240 [(2, 82), (0, (n : Int)), (0, p)] (K, RF sp rt tt z.1, z) = some (some (0, ((bc (fun k => decide (cntP I p (Int.tdiv (I 0 0) 1440) (STK I p (Int.tdiv (I 0 0) 1440) c (fun _ _ => false)) n k)) 12 : Nat) : Int)), (J, RF sp rt tt z.1, z)) := by
        have s := S_241 (d := 297) (I := K) (sp := sp) (rt := rt) (tt := tt) (z := z) (p := (n : Int)) (by rw [k5]; omega)
        rw [k5, bz_t c1] at s
        refine (K_240 ..).trans ((T_240_0 ..).trans (bd_t s ?_))
        refine (T_240_5 ..).trans (ci_f (by decide) (bd_t (S_212 (by rw [k3]; omega)) ?_))
        rw [k3, bz_t c3]
        refine (T_240_13 ..).trans (ci_f (by decide) (bd_t e242 ?_))
        refine (T_240_23 ..).trans ?_
        rw [w32_of (x := 12 * (n : Int)) (by omega) (by omega), show 12 * (n : Int) = ((12 * n + 0 : Nat) : Int) by omega]
        exact l240
      have gJ : GK J := GK_Z (fun a b q => hJ.1 a b (by omega)) gK
      obtain ⟨f1, f2⟩ := FZ_ok hh hx (FZ_t Z (SRl_Z hJ)) gJ
      exact ⟨_, K, J, e1, e2, f1, f2⟩
    · refine ⟨-1, I, I, ?_, ?_, hh, hx⟩
      · refine d1.trans ?_
        rw [bz_t c1]
        refine (T_45_8 ..).trans (ci_f (by decide) (bd_t S_18 ?_))
        rw [bz_f c3]
        exact (T_45_19 ..).trans (ci_t rfl rfl)
      · refine d2.trans ?_
        rw [bz_t c1]
        refine (T_240_5 ..).trans (ci_f (by decide) (bd_t (S_212 (by omega)) ?_))
        rw [bz_f (by omega)]
        exact (T_240_13 ..).trans (ci_t rfl rfl)
  · refine ⟨-1, I, I, ?_, ?_, hh, hx⟩
    · refine d1.trans ?_
      rw [bz_f c1]
      exact (T_45_8 ..).trans (ci_t rfl rfl)
    · refine d2.trans ?_
      rw [bz_f c1]
      exact (T_240_5 ..).trans (ci_t rfl rfl)
end OC0

