/-! late: both answer alike -/
/-- the last that holds, or -1 -/
def lh (g : Nat → Bool) (v : Nat → Int) : Nat → Int
  | 0 => -1
  | n + 1 => if g n = true then v n else lh g v n
theorem lh_1 {g : Nat → Bool} {v : Nat → Int} {n : Nat} (h : g n = true) : lh g v (n + 1) = v n := by
  show (if g n = true then v n else lh g v n) = _
  rw [if_pos h]
theorem lh_0 {g : Nat → Bool} {v : Nat → Int} {n : Nat} (h : ¬ g n = true) : lh g v (n + 1) = lh g v n := by
  show (if g n = true then v n else lh g v n) = _
  rw [if_neg h]
theorem lh_z {g : Nat → Bool} {v : Nat → Int} {m : Nat} : ∀ n, m ≤ n → (∀ k, m ≤ k → k < n → ¬ g k = true) → lh g v n = lh g v m
  | 0, hm, _ => by rw [show m = 0 by omega]
  | n + 1, hm, h => by
    by_cases q : m = n + 1
    · rw [q]
    · rw [lh_0 (h n (by omega) (by omega))]
      exact lh_z n (by omega) (fun k h1 h2 => h k h1 (by omega))
theorem lh_r {g : Nat → Bool} {v : Nat → Int} {P : Int → Prop} (h0 : P (-1)) : ∀ n, (∀ k, k < n → g k = true → P (v k)) → P (lh g v n)
  | 0, _ => h0
  | n + 1, h => by
    by_cases q : g n = true
    · rw [lh_1 q]; exact h n (by omega) q
    · rw [lh_0 q]; exact lh_r h0 n (fun k hk => h k (by omega))
abbrev hsP (I : Nat → Nat → Int) (p day : Int) (S : SB) (L : Nat) (e : FE) (i j : Nat) : Prop := cntP I p day S i j ∧ I 99 (12 * i + j) = 119 ∧ cv I L i j e = 1
noncomputable def hs (I : Nat → Nat → Int) (p day : Int) (S : SB) (L : Nat) (e : FE) : Nat → Bool := fun k => decide (hsP I p day S L e (k / 12) (k % 12))
theorem hs_t {I : Nat → Nat → Int} {p day : Int} {S : SB} {L : Nat} {e : FE} {i j : Nat} (hj : j < 12) : hs I p day S L e (12 * i + j) = true ↔ hsP I p day S L e i j := by
  unfold hs
  rw [show (12 * i + j) / 12 = i by omega, show (12 * i + j) % 12 = j by omega]
  exact decide_eq_true_iff
def BIl (I : Nat → Nat → Int) (c L : Nat) (S : SB) (e : FE) (J : Nat → Nat → Int) : Prop :=
  (FZ I J ∧ GK J) ∧ (∀ i, i < c → ∃ v : Nat, v < 4096 ∧ J (tc i) 13 = (v : Int) ∧ ∀ k, k < 12 → v.testBit k = S i k) ∧ ∀ k, k < 12 → L.testBit k = true → J 10 k = e k
theorem BI_23 {I : Nat → Nat → Int} {c L : Nat} {S : SB} {e : FE} {J K : Nat → Nat → Int} (h : BIl I c L S e J) (hK : ∀ a j, ¬ a = 23 → K a j = J a j) : BIl I c L S e K := by
  obtain ⟨⟨h1, h2⟩, h3, h4⟩ := h
  refine ⟨⟨FZ_t h1 (fun a b q => hK a b (by omega)), GK_Z (fun a b q => hK a b (by omega)) h2⟩, fun i hi => ?_, fun k hk hl => (hK _ _ (by omega)).trans (h4 k hk hl)⟩
  obtain ⟨v, v1, v2, v3⟩ := h3 i hi
  have := tc_d i
  exact ⟨v, v1, (hK _ _ (by omega)).trans v2, v3⟩
section LA0
variable {d : Nat} {I : Nat → Nat → Int} {sp rt : Nat} {tt : Nat → Nat} {z : Zs} {c L : Nat} {e : FE} {S : SB}
theorem L_175c (h : TV I tt z c L) {p day : Int} {i m : Nat} (hi : i < c) (hm : TXf I L i m) (hout : ∀ (J : Nat → Nat → Int) (x4 x5 : AV), dl x4 → dl x5 → BIl I c L S e J → ∃ K, Run PG (Call PG (d + 3)) 175 13 [(2, 9), (0, p), (0, day), (0, (i : Int) - 1), x4, x5] [] (J, RF sp rt tt z.1, z) (0, 0) = some (some (0, lh (hs I p day S L e) (I 100) (12 * i)), (K, RF sp rt tt z.1, z)) ∧ BIl I c L S e K) : ∀ (n : Nat) (J : Nat → Nat → Int), n ≤ m → BIl I c L S e J → ∃ K, Run PG (Call PG (d + 3)) 175 34 [(2, 9), (0, p), (0, day), (0, (i : Int)), (2, ((tc i : Nat) : Int)), (0, (n : Int) - 1)] [] (J, RF sp rt tt z.1, z) (0, 0) = some (some (0, lh (hs I p day S L e) (I 100) (12 * i + n)), (K, RF sp rt tt z.1, z)) ∧ BIl I c L S e K := by
  have hc := h.1
  have hx := tcL (sp := sp) (rt := rt) h hi
  have l1 : (LAY (tc i)).1 = 3 := by rw [hx.2.1]
  have t2 := hx.2.2.2.1
  have t3 := hx.2.2.2.2.1
  have m12 := hm.1
  have w1 : w32 ((i : Int) + (-1)) = (i : Int) - 1 := w32_of (by omega) (by omega)
  intro n
  induction n with
  | zero =>
    intro J hn hJ
    obtain ⟨K, e1, hK⟩ := hout J (2, ((tc i : Nat) : Int)) (0, ((0 : Nat) : Int) - 1) (dl2 _) (dl0 _) hJ
    refine ⟨K, (T_175_34 ..).trans (ci_t (by omega) ?_), hK⟩
    rw [w1]
    exact e1
  | succ n ih =>
    intro J hn hJ
    obtain ⟨r1, r2, r3⟩ := FZ_rows hJ.1.1 (i := i)
    have e0 : J (tc i) 0 = I 94 i := (r3 0 (by decide)).trans hm.2.2.1.1.symm
    have e1 : J (tc i) 1 = I 95 i := (r3 1 (by decide)).trans hm.2.2.1.2.1.symm
    have e2 : J (tc i) 2 = I 96 i := (r3 2 (by decide)).trans hm.2.2.1.2.2.symm
    have ek : J (tc i + 2) n = I 99 (12 * i + n) := by rw [r1 2 (by decide) (by decide)]; exact (hm.2.2.2 n (by omega)).2.1
    obtain ⟨v, v1, v2, v3⟩ := hJ.2.1 i hi
    have hb := bit32 v1 (show n < 12 by omega)
    have s52 := S_52 (d := d + 2) (I := J) (sp := sp) (rt := rt) (tt := tt) (z := z) (t := tc i) (j := (n : Int)) l1
    rw [v2] at s52
    have w2 : w32 ((n : Int) + (-1)) = (n : Int) - 1 := w32_of (by omega) (by omega)
    have k1 : Run PG (Call PG (d + 3)) 175 34 [(2, 9), (0, p), (0, day), (0, (i : Int)), (2, ((tc i : Nat) : Int)), (0, ((n + 1 : Nat) : Int) - 1)] [] (J, RF sp rt tt z.1, z) (0, 0) = Run PG (Call PG (d + 3)) 175 46 [(2, 9), (0, p), (0, day), (0, (i : Int)), (2, ((tc i : Nat) : Int)), (0, (n : Int))] [(0, bz (forP I p day i))] (J, RF sp rt tt z.1, z) (0, 0) := by
      rw [show ((n + 1 : Nat) : Int) - 1 = (n : Int) by omega]
      refine (T_175_34 ..).trans (ci_f (by omega) (ite_t (decide_eq_true l1) (bd_t (S_49 l1) ?_)))
      rw [e0, e1, e2]
      rfl
    by_cases hf : forP I p day i
    · have t46 := T_175_46 (Call PG (d + 3)) J sp rt tt z p day (i : Int) (tc i) (n : Int) (bz (forP I p day i))
      rw [show ((n : Int)).toNat = n by omega] at t46
      have nx : ∀ J' : Nat → Nat → Int, BIl I c L S e J' → ¬ hs I p day S L e (12 * i + n) = true → ∃ K, Run PG (Call PG (d + 3)) 175 34 [(2, 9), (0, p), (0, day), (0, (i : Int)), (2, ((tc i : Nat) : Int)), (0, w32 ((n : Int) + (-1)))] [] (J', RF sp rt tt z.1, z) (0, 0) = some (some (0, lh (hs I p day S L e) (I 100) (12 * i + (n + 1))), (K, RF sp rt tt z.1, z)) ∧ BIl I c L S e K := by
        intro J' hJ' hq
        obtain ⟨K, e3, hK⟩ := ih J' (by omega) hJ'
        refine ⟨K, ?_, hK⟩
        rw [w2, show 12 * i + (n + 1) = 12 * i + n + 1 by omega, lh_0 hq]
        exact e3
      by_cases q : I 99 (12 * i + n) = 119
      · by_cases q2 : S i n = false
        · obtain ⟨s, e81⟩ := C_81 (d := d + 1) (sp := sp) (rt := rt) h hi hm (show n < m by omega) (Or.inr (Or.inr q)) (J := J) (fun a b q1 q2 => by
            have w := r1 (a - tc i) (by omega) (by omega)
            rw [show tc i + (a - tc i) = a by omega] at w
            exact congrFun w b) hJ.2.2
          have hB : BIl I c L S e (pc J 23 s) := BI_23 hJ (fun a b q => pc_ne q)
          have k3 : Run PG (Call PG (d + 3)) 175 34 [(2, 9), (0, p), (0, day), (0, (i : Int)), (2, ((tc i : Nat) : Int)), (0, ((n + 1 : Nat) : Int) - 1)] [] (J, RF sp rt tt z.1, z) (0, 0) = Run PG (Call PG (d + 3)) 175 80 [(2, 9), (0, p), (0, day), (0, (i : Int)), (2, ((tc i : Nat) : Int)), (0, (n : Int))] [(0, cv I L i n e)] (pc J 23 s, RF sp rt tt z.1, z) (0, 0) := by
            refine k1.trans (t46.trans ?_)
            rw [bz_t hf]
            refine ci_f (by decide) (ite_t l1 (nn_t (tx_a (R := I) t2).1 (ite_t (tx_a (R := I) t2).2.1 (ci_t (tx_m (tx_a (R := I) t2).2.2 (by omega)) ?_))))
            rw [ek]
            refine ci_t q (ite_t (decide_eq_true l1) (bd_t s52 ?_))
            rw [bz_f (fun r => r (hb.2 ((v3 n (by omega)).trans q2)))]
            exact (T_175_69 ..).trans (ci_t rfl (bd_t e81 rfl))
          by_cases q3 : cv I L i n e = 1
          · refine ⟨pc J 23 s, k3.trans ((T_175_80 ..).trans (ci_t q3 (ite_t l1 (nn_t (tx_a (R := I) t3).1 (ite_t (tx_a (R := I) t3).2.1 ?_))))), hB⟩
            rw [show 12 * i + (n + 1) = 12 * i + n + 1 by omega, lh_1 ((hs_t (by omega)).2 ⟨⟨hf, by have := hm.2.1.2; omega, q2⟩, q, q3⟩), show ((n : Int)).toNat = n by omega, pc_ne (by have := tc_d i; omega), r1 3 (by decide) (by decide), ((hm.2.2.2 n (by omega)).2.2.1 (Or.inr q)).1]
            exact ci_t (tx_m (tx_a (R := I) t3).2.2 (by omega)) rfl
          · obtain ⟨K, e3, hK⟩ := nx _ hB (fun r => q3 ((hs_t (by omega)).1 r).2.2)
            exact ⟨K, k3.trans ((T_175_80 ..).trans (ci_f q3 e3)), hK⟩
        · obtain ⟨K, e3, hK⟩ := nx J hJ (fun r => q2 ((hs_t (by omega)).1 r).1.2.2)
          refine ⟨K, k1.trans (t46.trans ?_), hK⟩
          rw [bz_t hf]
          refine ci_f (by decide) (ite_t l1 (nn_t (tx_a (R := I) t2).1 (ite_t (tx_a (R := I) t2).2.1 (ci_t (tx_m (tx_a (R := I) t2).2.2 (by omega)) ?_))))
          rw [ek]
          refine ci_t q (ite_t (decide_eq_true l1) (bd_t s52 ?_))
          rw [bz_t (show ¬ ia32 (shr32 (v : Int) (n : Int)) 1 = 0 from fun r => q2 ((v3 n (by omega)).symm.trans (hb.1 r)))]
          exact (T_175_69 ..).trans (ci_f (by decide) e3)
      · obtain ⟨K, e3, hK⟩ := nx J hJ (fun r => q ((hs_t (by omega)).1 r).2.1)
        refine ⟨K, k1.trans (t46.trans ?_), hK⟩
        rw [bz_t hf]
        refine ci_f (by decide) (ite_t l1 (nn_t (tx_a (R := I) t2).1 (ite_t (tx_a (R := I) t2).2.1 (ci_t (tx_m (tx_a (R := I) t2).2.2 (by omega)) ?_))))
        rw [ek]
        exact ci_f q e3
    · obtain ⟨K, e3, hK⟩ := hout J (2, ((tc i : Nat) : Int)) (0, (n : Int)) (dl2 _) (dl0 _) hJ
      refine ⟨K, k1.trans ((T_175_46 ..).trans ?_), hK⟩
      rw [bz_f hf, w1, lh_z (m := 12 * i) (12 * i + (n + 1)) (by omega) (fun k h1 h2 r => by
        obtain ⟨k', rfl⟩ : ∃ k', k = 12 * i + k' := ⟨k - 12 * i, by omega⟩
        exact hf ((hs_t (by omega)).1 r).1.1)]
      exact ci_t rfl e3
theorem L_175b (h : TV I tt z c L) {p day : Int} : ∀ (i : Nat) (J : Nat → Nat → Int) (x4 x5 : AV), dl x4 → dl x5 → i ≤ c → BIl I c L S e J → ∃ K, Run PG (Call PG (d + 3)) 175 13 [(2, 9), (0, p), (0, day), (0, (i : Int) - 1), x4, x5] [] (J, RF sp rt tt z.1, z) (0, 0) = some (some (0, lh (hs I p day S L e) (I 100) (12 * i)), (K, RF sp rt tt z.1, z)) ∧ BIl I c L S e K := by
  have hc := h.1
  intro i
  induction i with
  | zero =>
    intro J x4 x5 h4 h5 hi hJ
    exact ⟨J, (T_175_13 _ _ _ _ _ _ _ _ _ _ _ h4 h5).trans (ci_t (by omega) rfl), hJ⟩
  | succ i ih =>
    intro J x4 x5 h4 h5 hi hJ
    have hx := tcL (sp := sp) (rt := rt) h (show i < c by omega)
    have l1 : (LAY (tc i)).1 = 3 := by rw [hx.2.1]
    have r11 := rf11 (sp := sp) (rt := rt) h (show i < c by omega)
    obtain ⟨m, hm⟩ := h.2.2.2.2 i (by omega)
    have m12 := hm.1
    have e5 : J (tc i) 5 = (m : Int) := ((FZ_rows hJ.1.1 (i := i)).2.2 5 (by decide)).trans hm.2.1.1
    obtain ⟨K, e1, hK⟩ := L_175c (d := d) (sp := sp) (rt := rt) h (show i < c by omega) hm (fun J' y4 y5 g4 g5 hJ' => ih J' y4 y5 g4 g5 (by omega) hJ') m J (Nat.le_refl _) hJ
    refine ⟨K, (T_175_13 _ _ _ _ _ _ _ _ _ _ _ h4 h5).trans ?_, hK⟩
    rw [show ((i + 1 : Nat) : Int) - 1 = (i : Int) by omega, show ((i : Int)).toNat = i by omega]
    refine ci_f (by omega) (ci_t (by omega) (nn_t r11 (ite_t l1 ?_)))
    rw [e5, w32_of (x := (m : Int) - 1) (by omega) (by omega), lh_z (m := 12 * i + m) (12 * (i + 1)) (by omega) (fun k h1 h2 r => by
      obtain ⟨k', rfl⟩ : ∃ k', k = 12 * i + k' := ⟨k - 12 * i, by omega⟩
      have := ((hs_t (by omega)).1 r).1.2.1
      have := hm.2.1.2
      omega)]
    exact e1
theorem S_175 (h : TV I tt z c L) {p day : Int} {J : Nat → Nat → Int} (hJ : FZ I J) (gJ : GK J) (he : ∀ k, k < 12 → L.testBit k = true → J 10 k = e k) : ∃ K, Call PG (d + 4) 175 [(2, 9), (0, p), (0, day)] (J, RF sp rt tt z.1, z) = some (some (0, lh (hs I p day (STK I p day c (fun _ _ => false)) L e) (I 100) (12 * c)), (K, RF sp rt tt z.1, z)) ∧ FZ I K ∧ GK K := by
  have hc := h.1
  obtain ⟨K1, e51, hK1⟩ := S_51 (d := d) (sp := sp) (rt := rt) (TV_Z hJ h) (p := p) (day := day)
  rw [STK_Z hJ] at hK1
  have hB : BIl I c L (STK I p day c (fun _ _ => false)) e K1 := by
    refine ⟨⟨FZ_t hJ (SCl_Z hK1), GK_Z (I := J) (J := K1) (fun a b q => hK1.1 a b (fun r => ?_)) gJ⟩, hK1.2, fun k hk hl => ?_⟩
    · obtain ⟨r1, i, r2, r3⟩ := r
      have := tc_d i
      omega
    · rw [hK1.1 10 k (by omega)]
      exact he k hk hl
  obtain ⟨K, e2, hK⟩ := L_175b (d := d) (sp := sp) (rt := rt) h (p := p) (day := day) c K1 (9, 0) (9, 0) dl9 dl9 (Nat.le_refl _) hB
  have k9 : K1 9 1 = (c : Int) := (hB.1.1 9 1 (by decide)).trans h.2.1.1
  refine ⟨K, (K_175 ..).trans ((T_175_0 ..).trans (bd_t e51 ((T_175_6 ..).trans ?_))), hK.1⟩
  rw [k9, w32_of (x := (c : Int) - 1) (by omega) (by omega)]
  exact e2
theorem L_324 (h : TV I tt z c L) (hh : InvS I ∧ GN0 I ∧ GK I) (hx : GX I sp tt z.1) {p : Int} (hp : 0 ≤ p ∧ p < I 2 6) : ∀ (u q : Nat) (J : Nat → Nat → Int), q + u = 12 * c → RLs I p S (fct I p) (fun _ => false) 0 J 0 → ∃ K, Run PG (Call PG (d + 9)) 324 14 [(2, 82), (0, p), (0, lh (hs I p (Int.tdiv (I 0 0) 1440) S L (fct I p)) (I 100) q), (0, (q : Int))] [] (J, RF sp rt tt z.1, z) (0, 0) = some (some (0, lh (hs I p (Int.tdiv (I 0 0) 1440) S L (fct I p)) (I 100) (12 * c)), (K, RF sp rt tt z.1, z)) ∧ RLs I p S (fct I p) (fun _ => false) 0 K 0 := by
  have hc := h.1
  have t0 := hh.1.1.1
  have hx0 := hx
  intro u
  induction u with
  | zero =>
    intro q J hq hJ
    rw [show q = 12 * c by omega]
    have j5 : J 82 5 = (c : Int) := ((RL_Z hJ).1.1 82 5 (by decide)).trans h.2.1.2
    refine ⟨J, (T_324_14 ..).trans ?_, hJ⟩
    rw [j5, w32_of (x := 12 * (c : Int)) (by omega) (by omega)]
    exact ci_f (by omega) rfl
  | succ u ih =>
    intro q J hq hJ
    have Z := (RL_Z hJ).1.1
    have j5 : J 82 5 = (c : Int) := (Z 82 5 (by decide)).trans h.2.1.2
    obtain ⟨i, j, eq, hj⟩ : ∃ i j, q = 12 * i + j ∧ j < 12 := ⟨q / 12, q % 12, by omega, by omega⟩
    have hi : i < c := by omega
    obtain ⟨m, hm⟩ := h.2.2.2.2 i hi
    have m12 := hm.1
    have e97 := hm.2.1.2
    have s245 := S_245 (d := d + 5) (I := I) (sp := sp) (rt := rt) (tt := tt) (z := z) (by rw [t0.1]; exact t0.2) (p := p) (k := q) (by omega) (S := S) (J := J) (fun a b r => Z a b (by omega)) ((RL_Z hJ).2.1 q (by omega))
    rw [show q / 12 = i by omega, show q % 12 = j by omega, t0.1] at s245
    have hbf : hs I p (Int.tdiv (I 0 0) 1440) S L (fct I p) q = true ↔ hsP I p (Int.tdiv (I 0 0) 1440) S L (fct I p) i j := by
      rw [eq]
      exact hs_t hj
    have j99 : J 99 q = I 99 (12 * i + j) := by rw [eq]; exact Z _ _ (by omega)
    have NX : ∀ (J' : Nat → Nat → Int), RLs I p S (fct I p) (fun _ => false) 0 J' 0 → ¬ hs I p (Int.tdiv (I 0 0) 1440) S L (fct I p) q = true → ∃ K, Run PG (Call PG (d + 9)) 324 14 [(2, 82), (0, p), (0, lh (hs I p (Int.tdiv (I 0 0) 1440) S L (fct I p)) (I 100) q), (0, w32 ((q : Int) + 1))] [] (J', RF sp rt tt z.1, z) (0, 0) = some (some (0, lh (hs I p (Int.tdiv (I 0 0) 1440) S L (fct I p)) (I 100) (12 * c)), (K, RF sp rt tt z.1, z)) ∧ RLs I p S (fct I p) (fun _ => false) 0 K 0 := by
      intro J' hJ' hn
      obtain ⟨K, e, hK⟩ := ih (q + 1) J' (by omega) hJ'
      rw [lh_0 hn] at e
      rw [w_n (by omega)]
      exact ⟨K, e, hK⟩
    have k1 : Run PG (Call PG (d + 9)) 324 14 [(2, 82), (0, p), (0, lh (hs I p (Int.tdiv (I 0 0) 1440) S L (fct I p)) (I 100) q), (0, (q : Int))] [] (J, RF sp rt tt z.1, z) (0, 0) = Run PG (Call PG (d + 9)) 324 31 [(2, 82), (0, p), (0, lh (hs I p (Int.tdiv (I 0 0) 1440) S L (fct I p)) (I 100) q), (0, (q : Int))] [(0, bz (cntP I p (Int.tdiv (I 0 0) 1440) S i j))] (J, RF sp rt tt z.1, z) (0, 0) := by
      refine (T_324_14 ..).trans ?_
      rw [j5, w32_of (x := 12 * (c : Int)) (by omega) (by omega)]
      exact ci_t (by omega) (bd_t s245 rfl)
    have t31 := T_324_31 (Call PG (d + 9)) J sp rt tt z p (lh (hs I p (Int.tdiv (I 0 0) 1440) S L (fct I p)) (I 100) q) (q : Int) (bz (cntP I p (Int.tdiv (I 0 0) 1440) S i j))
    rw [show ((q : Int)).toNat = q by omega, j99] at t31
    by_cases c1 : cntP I p (Int.tdiv (I 0 0) 1440) S i j
    · have hjm : j < m := by have := c1.2.1; omega
      by_cases c2 : I 99 (12 * i + j) = 119
      · obtain ⟨B, ⟨b1, b1'⟩, b2, b3, b4, b5⟩ := hJ
        have hF := FINDS_Z (d := d) (rt := rt) (IW hh) hx0 b1 b1' hp b2
        obtain ⟨J', e248, hJ'⟩ := R_248 (d := d + 6) (I := I) (sp := sp) (rt := rt) (i := i) (by omega) hm hjm hF (fun a b q1 q2 => b1 a b (by omega)) b4
        have hR : RLs I p S (fct I p) (fun _ => false) 0 J' 0 := ⟨B, ⟨b1, b1'⟩, b2, b3, hJ', b5⟩
        rw [← eq] at e248
        have k2 : Run PG (Call PG (d + 9)) 324 14 [(2, 82), (0, p), (0, lh (hs I p (Int.tdiv (I 0 0) 1440) S L (fct I p)) (I 100) q), (0, (q : Int))] [] (J, RF sp rt tt z.1, z) (0, 0) = Run PG (Call PG (d + 9)) 324 50 [(2, 82), (0, p), (0, lh (hs I p (Int.tdiv (I 0 0) 1440) S L (fct I p)) (I 100) q), (0, (q : Int))] [(0, cv I L i j (fct I p))] (J', RF sp rt tt z.1, z) (0, 0) := by
          refine k1.trans (t31.trans ?_)
          rw [bz_t c1]
          exact ci_f (by decide) (ci_t (by omega) (ci_t c2 (bd_t e248 rfl)))
        have j100 : J' 100 q = I 100 q := (RL_Z hR).1.1 _ _ (by omega)
        by_cases c3 : cv I L i j (fct I p) = 1
        · obtain ⟨K, e, hK⟩ := ih (q + 1) J' (by omega) hR
          rw [lh_1 (hbf.2 ⟨c1, c2, c3⟩)] at e
          refine ⟨K, k2.trans ((T_324_50 ..).trans (ci_t c3 (ci_t (by omega) ?_))), hK⟩
          rw [w_n (by omega), show ((q : Int)).toNat = q by omega, j100]
          exact e
        · obtain ⟨K, e, hK⟩ := NX J' hR (fun w => c3 (hbf.1 w).2.2)
          exact ⟨K, k2.trans ((T_324_50 ..).trans (ci_f c3 e)), hK⟩
      · obtain ⟨K, e, hK⟩ := NX J hJ (fun w => c2 (hbf.1 w).2.1)
        refine ⟨K, k1.trans (t31.trans ?_), hK⟩
        rw [bz_t c1]
        exact ci_f (by decide) (ci_t (by omega) (ci_f c2 e))
    · obtain ⟨K, e, hK⟩ := NX J hJ (fun w => c1 (hbf.1 w).1)
      refine ⟨K, k1.trans (t31.trans ?_), hK⟩
      rw [bz_f c1]
      exact ci_t rfl e
theorem S_324 (h : TV I tt z c L) (hh : InvS I ∧ GN0 I ∧ GK I) (hx : GX I sp tt z.1) {p : Int} (hp : 0 ≤ p ∧ p < I 2 6) {H : Nat → Nat → Int} (hZ : FZ I H) (gH : GK H) : ∃ K, Call PG (d + 10) 324 [(2, 82), (0, p)] (H, RF sp rt tt z.1, z) = some (some (0, lh (hs I p (Int.tdiv (I 0 0) 1440) (STK I p (Int.tdiv (I 0 0) 1440) c (fun _ _ => false)) L (fct I p)) (I 100) (12 * c)), (K, RF sp rt tt z.1, z)) ∧ FZ I K ∧ GK K := by
  have t0 := hh.1.1.1
  have e2 : H 82 2 = I 0 0 := (hZ 82 2 (by decide)).trans t0.1
  obtain ⟨J, e242, hJ⟩ := S_242 (d := d + 5) (sp := sp) (rt := rt) (TV_Z hZ h) (by rw [e2]; exact t0.2) (p := p)
  rw [e2, STK_Z hZ] at hJ
  obtain ⟨J1, e247, hJ1⟩ := S_247 (d := d + 8) (I := J) (sp := sp) (rt := rt) (tt := tt) (z := z) (p := p) (e := fct I p)
  have hR : RLs I p (STK I p (Int.tdiv (I 0 0) 1440) c (fun _ _ => false)) (fct I p) (fun _ => false) 0 J1 0 := by
    refine ⟨up2 J 82 56 p, ⟨FZ_t hZ (FZ_t (SRl_Z hJ) (fun a b q => by rw [up2_def, if_neg (by omega)])), GK_Z (fun a b q => ?_) gH⟩, up2_eq, fun k hk => by rw [up2_def, if_neg (by omega)]; exact hJ.2 k hk, hJ1, fun k hk => absurd hk (Nat.not_lt_zero k)⟩
    rw [up2_def, if_neg (by omega)]
    exact hJ.1 a b (by omega)
  obtain ⟨K, e, hK⟩ := L_324 (d := d) (sp := sp) (rt := rt) h hh hx hp (12 * c) 0 J1 (by omega) hR
  exact ⟨K, (K_324 ..).trans ((T_324_0 ..).trans (bd_t e242 ((T_324_7 ..).trans (bd_t e247 ((T_324_12 ..).trans e))))), (RL_Z hK).1⟩
end LA0

