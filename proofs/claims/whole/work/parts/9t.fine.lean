/-! fine: both answer alike -/
/-- the last that holds -/
def lf (g : Nat → Bool) (v : Nat → Int) : Nat → Int
  | 0 => 0
  | n + 1 => if g n = true then v n else lf g v n
theorem lf_1 {g : Nat → Bool} {v : Nat → Int} {n : Nat} (h : g n = true) : lf g v (n + 1) = v n := by
  show (if g n = true then v n else lf g v n) = _
  rw [if_pos h]
theorem lf_0 {g : Nat → Bool} {v : Nat → Int} {n : Nat} (h : ¬ g n = true) : lf g v (n + 1) = lf g v n := by
  show (if g n = true then v n else lf g v n) = _
  rw [if_neg h]
theorem lf_cg {g f : Nat → Bool} {v : Nat → Int} : ∀ n, (∀ k, k < n → (f k = true ↔ g k = true)) → lf f v n = lf g v n
  | 0, _ => rfl
  | n + 1, h => by
    by_cases q : f n = true
    · rw [lf_1 q, lf_1 ((h n (by omega)).1 q)]
    · rw [lf_0 q, lf_0 (fun r => q ((h n (by omega)).2 r))]
      exact lf_cg n (fun k hk => h k (by omega))
theorem lf_z {g : Nat → Bool} {v : Nat → Int} {m : Nat} : ∀ n, m ≤ n → (∀ k, m ≤ k → k < n → ¬ g k = true) → lf g v n = lf g v m
  | 0, hm, _ => by rw [show m = 0 by omega]
  | n + 1, hm, h => by
    by_cases q : m = n + 1
    · rw [q]
    · rw [lf_0 (h n (by omega) (by omega))]
      exact lf_z n (by omega) (fun k h1 h2 => h k h1 (by omega))
/-- the fine of text i -/
def fo (I : Nat → Nat → Int) (p day : Int) (S : SB) (i : Nat) : Int := lf (fun k => decide (cntP I p day S i k ∧ I 99 (12 * i + k) = 102)) (fun k => I 100 (12 * i + k)) 12
def sw (w : Nat → Int) : Nat → Int
  | 0 => 0
  | n + 1 => w64 (sw w n + w n)
section FI0
variable {d : Nat} {I : Nat → Nat → Int} {sp rt : Nat} {tt : Nat → Nat} {z : Zs} {c L : Nat} {e : FE} {S : SB}
theorem L_92 (h : TV I tt z c L) {i m : Nat} (hi : i < c) (hm : TXf I L i m) {J : Nat → Nat → Int} (hJ : FZ I J) {v : Nat} (hv : v < 4096 ∧ J (tc i) 13 = (v : Int) ∧ ∀ k, k < 12 → v.testBit k = S i k) {g : Nat → Bool} (hg : ∀ k, k < m → (g k = true ↔ S i k = false ∧ I 99 (12 * i + k) = 102)) : ∀ n, n ≤ m → Run PG (Call PG (d + 1)) 92 7 [(2, ((tc i : Nat) : Int)), (0, (n : Int) - 1)] [] (J, RF sp rt tt z.1, z) (0, 0) = some (some (0, lf g (fun k => I 100 (12 * i + k)) n), (J, RF sp rt tt z.1, z)) := by
  have hc := h.1
  obtain ⟨r1, r2, r3⟩ := FZ_rows hJ (i := i)
  have hx := tcL (sp := sp) (rt := rt) h hi
  have l1 : (LAY (tc i)).1 = 3 := by rw [hx.2.1]
  have t2 := hx.2.2.2.1
  have t3 := hx.2.2.2.2.1
  have m12 := hm.1
  intro n
  induction n with
  | zero =>
    intro _
    exact (T_92_7 ..).trans (ci_t (by omega) rfl)
  | succ n ih =>
    intro hn
    have ek : J (tc i + 2) n = I 99 (12 * i + n) := by rw [r1 2 (by decide) (by decide)]; exact (hm.2.2.2 n (by omega)).2.1
    have ih' := ih (by omega)
    have hb := bit32 hv.1 (show n < 12 by omega)
    have s52 := S_52 (d := d) (I := J) (sp := sp) (rt := rt) (tt := tt) (z := z) (t := tc i) (j := (n : Int)) l1
    rw [hv.2.1] at s52
    refine (T_92_7 ..).trans ?_
    rw [show ((n + 1 : Nat) : Int) - 1 = (n : Int) by omega, show ((n : Int)).toNat = n by omega]
    refine ci_f (by omega) (ite_t l1 (nn_t (tx_a (R := I) t2).1 (ite_t (tx_a (R := I) t2).2.1 (ci_t (tx_m (tx_a (R := I) t2).2.2 (by omega)) ?_))))
    rw [ek]
    have w1 : w32 ((n : Int) + (-1)) = (n : Int) - 1 := w32_of (by omega) (by omega)
    by_cases q : I 99 (12 * i + n) = 102
    · refine ci_t q (ite_t (decide_eq_true l1) (bd_t s52 ?_))
      by_cases q2 : S i n = false
      · rw [bz_f (fun r => r (hb.2 ((hv.2.2 n (by omega)).trans q2))), lf_1 ((hg n (by omega)).2 ⟨q2, q⟩)]
        refine (T_92_27 ..).trans (ci_t rfl (ite_t l1 (nn_t (tx_a (R := I) t3).1 (ite_t (tx_a (R := I) t3).2.1 ?_))))
        rw [show ((n : Int)).toNat = n by omega, r1 3 (by decide) (by decide), ((hm.2.2.2 n (by omega)).2.2.1 (Or.inl q)).1]
        exact ci_t (tx_m (tx_a (R := I) t3).2.2 (by omega)) rfl
      · rw [bz_t (show ¬ ia32 (shr32 (v : Int) (n : Int)) 1 = 0 from fun r => q2 ((hv.2.2 n (by omega)).symm.trans (hb.1 r))), lf_0 (fun r => q2 ((hg n (by omega)).1 r).1)]
        refine (T_92_27 ..).trans (ci_f (by decide) ?_)
        rw [w1]
        exact ih'
    · rw [lf_0 (fun r => q ((hg n (by omega)).1 r).2)]
      refine ci_f q ?_
      rw [w1]
      exact ih'
theorem S_92 (h : TV I tt z c L) {i m : Nat} (hi : i < c) (hm : TXf I L i m) {p day : Int} (hf : forP I p day i) {J : Nat → Nat → Int} (hJ : FZ I J) {v : Nat} (hv : v < 4096 ∧ J (tc i) 13 = (v : Int) ∧ ∀ k, k < 12 → v.testBit k = S i k) : Call PG (d + 2) 92 [(2, ((tc i : Nat) : Int))] (J, RF sp rt tt z.1, z) = some (some (0, fo I p day S i), (J, RF sp rt tt z.1, z)) := by
  have hx := tcL (sp := sp) (rt := rt) h hi
  have l1 : (LAY (tc i)).1 = 3 := by rw [hx.2.1]
  have m12 := hm.1
  have e97 := hm.2.1.2
  have e5 : J (tc i) 5 = (m : Int) := ((FZ_rows hJ (i := i)).2.2 5 (by decide)).trans hm.2.1.1
  have w := L_92 (d := d) (sp := sp) (rt := rt) (S := S) h hi hm hJ hv (g := fun k => decide (cntP I p day S i k ∧ I 99 (12 * i + k) = 102)) (fun k hk => ⟨fun r => ⟨(of_decide_eq_true r).1.2.2, (of_decide_eq_true r).2⟩, fun r => decide_eq_true ⟨⟨hf, by omega, r.1⟩, r.2⟩⟩) m (Nat.le_refl _)
  refine (K_92 ..).trans ((T_92_0 ..).trans (ite_t l1 ?_))
  rw [e5, w32_of (x := (m : Int) - 1) (by omega) (by omega)]
  refine w.trans ?_
  unfold fo
  rw [lf_z (m := m) 12 (by omega) (fun k h1 h2 r => by
    have := (of_decide_eq_true r).1.2.1
    omega)]
theorem L_280 (h2 : 0 ≤ I 82 2 ∧ I 82 2 ≤ 5000000) {p : Int} {J : Nat → Nat → Int} (hJ : FZ I J) (hS : ∀ k, k < 360 → J 109 k = if S (k / 12) (k % 12) = true then 1 else 0) {i : Nat} (hi : i < 30) : ∀ u j, j + u = 12 → Run PG (Call PG (d + 4)) 280 8 [(2, 82), (0, (i : Int)), (0, p), (0, lf (fun k => decide (cntP I p (Int.tdiv (I 82 2) 1440) S i k ∧ I 99 (12 * i + k) = 102)) (fun k => I 100 (12 * i + k)) j), (0, ((12 * i + j : Nat) : Int))] [] (J, RF sp rt tt z.1, z) (0, 0) = some (some (0, fo I p (Int.tdiv (I 82 2) 1440) S i), (J, RF sp rt tt z.1, z)) := by
  intro u
  induction u with
  | zero =>
    intro j hj
    rw [show j = 12 by omega]
    refine (T_280_8 ..).trans ?_
    rw [w32_of (x := 12 * (i : Int)) (by omega) (by omega), w32_of (x := 12 * (i : Int) + 12) (by omega) (by omega)]
    exact ci_f (by omega) rfl
  | succ u ih =>
    intro j hj
    have s245 := S_245 (d := d) (sp := sp) (rt := rt) (tt := tt) (z := z) h2 (p := p) (k := 12 * i + j) (by omega) (S := S) (J := J) (fun a b _ => hJ a b (by omega)) (hS _ (by omega))
    rw [show (12 * i + j) / 12 = i by omega, show (12 * i + j) % 12 = j by omega] at s245
    refine Eq.trans ?_ (ih (j + 1) (by omega))
    refine (T_280_8 ..).trans ?_
    rw [w32_of (x := 12 * (i : Int)) (by omega) (by omega), w32_of (x := 12 * (i : Int) + 12) (by omega) (by omega)]
    refine ci_t (by omega) (bd_t s245 ?_)
    refine (T_280_27 ..).trans ?_
    rw [show w32 (((12 * i + j : Nat) : Int) + 1) = ((12 * i + j + 1 : Nat) : Int) from w_n (by omega), show (((12 * i + j : Nat) : Int)).toNat = 12 * i + j by omega, hJ 99 _ (by omega), hJ 100 _ (by omega)]
    by_cases q : cntP I p (Int.tdiv (I 82 2) 1440) S i j
    · rw [bz_t q]
      refine ci_f (by decide) (ci_t (by omega) ?_)
      by_cases q2 : I 99 (12 * i + j) = 102
      · rw [lf_1 (decide_eq_true ⟨q, q2⟩)]
        exact ci_t q2 (ci_t (by omega) rfl)
      · rw [lf_0 (fun r => q2 (of_decide_eq_true r).2)]
        exact ci_f q2 rfl
    · rw [bz_f q, lf_0 (fun r => q (of_decide_eq_true r).1)]
      exact ci_t rfl rfl
theorem S_280 (h2 : 0 ≤ I 82 2 ∧ I 82 2 ≤ 5000000) {p : Int} {J : Nat → Nat → Int} (hJ : FZ I J) (hS : ∀ k, k < 360 → J 109 k = if S (k / 12) (k % 12) = true then 1 else 0) {i : Nat} (hi : i < 30) : Call PG (d + 5) 280 [(2, 82), (0, (i : Int)), (0, p)] (J, RF sp rt tt z.1, z) = some (some (0, fo I p (Int.tdiv (I 82 2) 1440) S i), (J, RF sp rt tt z.1, z)) := by
  have w := L_280 (d := d) (sp := sp) (rt := rt) (tt := tt) (z := z) h2 (p := p) hJ hS hi 12 0 (by omega)
  refine (K_280 ..).trans ((T_280_0 ..).trans ?_)
  rw [w32_of (x := 12 * (i : Int)) (by omega) (by omega), show 12 * (i : Int) = ((12 * i + 0 : Nat) : Int) by omega]
  exact w
theorem L_91 (h : TV I tt z c L) {p day : Int} {J : Nat → Nat → Int} (hJ : BL I c L S e (bf I p day S L e) J (12 * c)) : ∀ u x, x + u = bc (bf I p day S L e) (12 * c) → Run PG (Call PG (d + 2)) 91 4 [(2, 9), (1, sw (fun y => fo I p day S ((J 24 y).toNat / 12)) x), (9, 0), (0, (x : Int))] [] (J, RF sp rt tt z.1, z) (0, 0) = some (some (1, sw (fun y => fo I p day S ((J 24 y).toNat / 12)) (bc (bf I p day S L e) (12 * c))), (J, RF sp rt tt z.1, z)) := by
  have hc := h.1
  have hl := bc_le (f := bf I p day S L e) (12 * c)
  intro u
  induction u with
  | zero =>
    intro x hx
    rw [show x = bc (bf I p day S L e) (12 * c) by omega]
    refine (T_91_4 ..).trans ?_
    rw [hJ.2.2.2.1]
    exact ci_f (by omega) rfl
  | succ u ih =>
    intro x hx
    obtain ⟨k, k1, k2, k3⟩ := bc_ex (f := bf I p day S L e) (x := x) (12 * c) (by omega)
    have k24 : J 24 x = (k : Int) := by rw [← k3]; exact hJ.2.2.2.2 k k1 k2
    have ki : k / 12 < c := by omega
    have r11 := rf11 (sp := sp) (rt := rt) h ki
    have hx1 := tcL (sp := sp) (rt := rt) h ki
    have l1 : (LAY (tc (k / 12))).1 = 3 := by rw [hx1.2.1]
    obtain ⟨m, hm⟩ := h.2.2.2.2 (k / 12) ki
    obtain ⟨v, hv⟩ := hJ.2.1 (k / 12) ki
    have hf : forP I p day (k / 12) := (of_decide_eq_true k2).1.1
    have s92 := S_92 (d := d) (sp := sp) (rt := rt) (S := S) h ki hm hf hJ.1.1 hv
    have hw : sw (fun y => fo I p day S ((J 24 y).toNat / 12)) (x + 1) = w64 (sw (fun y => fo I p day S ((J 24 y).toNat / 12)) x + fo I p day S (k / 12)) := by
      show w64 (sw (fun y => fo I p day S ((J 24 y).toNat / 12)) x + fo I p day S ((J 24 x).toNat / 12)) = _
      rw [k24, show ((k : Int)).toNat = k by omega]
    refine Eq.trans ?_ (ih (x + 1) (by omega))
    rw [hw]
    refine (T_91_4 ..).trans ?_
    rw [hJ.2.2.2.1, show ((x : Int)).toNat = x by omega, k24, td_k, w32_of (x := ((k / 12 : Nat) : Int)) (by omega) (by omega), show (((k / 12 : Nat) : Int)).toNat = k / 12 by omega]
    refine ci_t (by omega) (ci_t (by omega) (ci_t (by omega) (nn_t r11 (ite_t (decide_eq_true l1) (bd_t s92 ?_)))))
    refine (T_91_30 ..).trans ?_
    rw [w_n (by omega)]
theorem L_279 (h : TV I tt z c L) (hh : InvS I ∧ GN0 I ∧ GK I) (hx : GX I sp tt z.1) {p : Int} (hp : 0 ≤ p ∧ p < I 2 6) {J : Nat → Nat → Int} (hJ : BL I c L (STK I p (Int.tdiv (I 0 0) 1440) c (fun _ _ => false)) (fct I p) (bf I p (Int.tdiv (I 0 0) 1440) (STK I p (Int.tdiv (I 0 0) 1440) c (fun _ _ => false)) L (fct I p)) J (12 * c)) : ∀ (u x : Nat) (H : Nat → Nat → Int) (x6 : AV), dl x6 → FZ I H → GK H → x + u = bc (bf I p (Int.tdiv (I 0 0) 1440) (STK I p (Int.tdiv (I 0 0) 1440) c (fun _ _ => false)) L (fct I p)) (12 * c) → ∃ K, Run PG (Call PG (d + 10)) 279 25 [(2, 82), (0, p), (1, sw (fun y => fo I p (Int.tdiv (I 0 0) 1440) (STK I p (Int.tdiv (I 0 0) 1440) c (fun _ _ => false)) ((J 24 y).toNat / 12)) x), (9, 0), (0, ((bc (bf I p (Int.tdiv (I 0 0) 1440) (STK I p (Int.tdiv (I 0 0) 1440) c (fun _ _ => false)) L (fct I p)) (12 * c) : Nat) : Int)), (0, (x : Int)), x6] [] (H, RF sp rt tt z.1, z) (0, 0) = some (some (1, sw (fun y => fo I p (Int.tdiv (I 0 0) 1440) (STK I p (Int.tdiv (I 0 0) 1440) c (fun _ _ => false)) ((J 24 y).toNat / 12)) (bc (bf I p (Int.tdiv (I 0 0) 1440) (STK I p (Int.tdiv (I 0 0) 1440) c (fun _ _ => false)) L (fct I p)) (12 * c))), (K, RF sp rt tt z.1, z)) ∧ FZ I K ∧ GK K := by
  have hc := h.1
  have t0 := hh.1.1.1
  have hx0 := hx
  have hl := bc_le (f := bf I p (Int.tdiv (I 0 0) 1440) (STK I p (Int.tdiv (I 0 0) 1440) c (fun _ _ => false)) L (fct I p)) (12 * c)
  intro u
  induction u with
  | zero =>
    intro x H x6 h6 hZ gH hx
    rw [show x = bc (bf I p (Int.tdiv (I 0 0) 1440) (STK I p (Int.tdiv (I 0 0) 1440) c (fun _ _ => false)) L (fct I p)) (12 * c) by omega]
    exact ⟨H, (T_279_25 _ _ _ _ _ _ _ _ _ _ _ h6).trans (ci_f (by omega) rfl), hZ, gH⟩
  | succ u ih =>
    intro x H x6 h6 hZ gH hx
    obtain ⟨k, k1, k2, k3⟩ := bc_ex (f := bf I p (Int.tdiv (I 0 0) 1440) (STK I p (Int.tdiv (I 0 0) 1440) c (fun _ _ => false)) L (fct I p)) (x := x) (12 * c) (by omega)
    have k24 : J 24 x = (k : Int) := by rw [← k3]; exact hJ.2.2.2.2 k k1 k2
    obtain ⟨K1, e277, hK1⟩ := S_277 (d := d) (sp := sp) (rt := rt) h (IW hh) hx0 (x := (x : Int)) hp hZ gH
    obtain ⟨⟨j1, j2⟩, j3, j4⟩ := RL_Z hK1
    have s280 := S_280 (d := d + 5) (sp := sp) (rt := rt) (tt := tt) (z := z) (by rw [t0.1]; exact t0.2) (p := p) j1 j3 (i := k / 12) (by omega)
    rw [t0.1] at s280
    have hw : sw (fun y => fo I p (Int.tdiv (I 0 0) 1440) (STK I p (Int.tdiv (I 0 0) 1440) c (fun _ _ => false)) ((J 24 y).toNat / 12)) (x + 1) = w64 (sw (fun y => fo I p (Int.tdiv (I 0 0) 1440) (STK I p (Int.tdiv (I 0 0) 1440) c (fun _ _ => false)) ((J 24 y).toNat / 12)) x + fo I p (Int.tdiv (I 0 0) 1440) (STK I p (Int.tdiv (I 0 0) 1440) c (fun _ _ => false)) (k / 12)) := by
      show w64 (sw (fun y => fo I p (Int.tdiv (I 0 0) 1440) (STK I p (Int.tdiv (I 0 0) 1440) c (fun _ _ => false)) ((J 24 y).toNat / 12)) x + fo I p (Int.tdiv (I 0 0) 1440) (STK I p (Int.tdiv (I 0 0) 1440) c (fun _ _ => false)) ((J 24 x).toNat / 12)) = _
      rw [k24, show ((k : Int)).toNat = k by omega]
    obtain ⟨K, e2, hK⟩ := ih (x + 1) K1 (0, ((bc (bf I p (Int.tdiv (I 0 0) 1440) (STK I p (Int.tdiv (I 0 0) 1440) c (fun _ _ => false)) L (fct I p)) (12 * c) : Nat) : Int)) (dl0 _) j1 j2 (by omega)
    refine ⟨K, Eq.trans ?_ e2, hK⟩
    rw [hw]
    refine (T_279_25 _ _ _ _ _ _ _ _ _ _ _ h6).trans (ci_t (by omega) (bd_t e277 ?_))
    refine (T_279_39 _ _ _ _ _ _ _ _ _ _ _ _ h6).trans ?_
    rw [j4 k k1 k2 (by rw [k3]), td_k, w32_of (x := ((k / 12 : Nat) : Int)) (by omega) (by omega)]
    refine bd_t s280 ?_
    refine (T_279_54 ..).trans ?_
    rw [w_n (by omega)]
theorem o_fine (p : Int) (hh : InvS I ∧ GN0 I ∧ GK I) (hx : GX I sp tt z.1) : OpL GX 1 90 279 [(0, p)] I sp rt tt z := by
  obtain ⟨c, L, hV, h95, hL⟩ := GX_TV hx
  have p1 := hh.1.2.1.1
  by_cases c3 : 0 ≤ p ∧ p < I 2 6
  · obtain ⟨K, e84, hK⟩ := S_84 (d := 291) (sp := sp) (rt := rt) hV h95 hL hh c3
    have l91 := L_91 (d := 296) (sp := sp) (rt := rt) hV hK _ 0 (Nat.zero_add _)
    obtain ⟨J1, e277, hJ1⟩ := S_277 (d := 289) (sp := sp) (rt := rt) hV (IW hh) hx (x := -1) c3 hK.1.1 hK.1.2
    obtain ⟨J, e279, hJ, gJ⟩ := L_279 (d := 289) (sp := sp) (rt := rt) hV hh hx c3 hK _ 0 J1 (9, 0) dl9 (RL_Z hJ1).1.1 (RL_Z hJ1).1.2 (Nat.zero_add _)
    have k3 : K 82 3 = I 2 6 := (hK.1.1 82 3 (by decide)).trans p1.1
    obtain ⟨f1, f2⟩ := FZ_ok hh hx hJ gJ
    refine ⟨sw (fun y => fo I p (Int.tdiv (I 0 0) 1440) (STK I p (Int.tdiv (I 0 0) 1440) c (fun _ _ => false)) ((K 24 y).toNat / 12)) (bc (bf I p (Int.tdiv (I 0 0) 1440) (STK I p (Int.tdiv (I 0 0) 1440) c (fun _ _ => false)) L (fct I p)) (12 * c)), K, J, ?_, ?_, f1, f2⟩
    · refine (K_90 ..).trans ((T_90_0 ..).trans (bd_t S_18 ?_))
      rw [bz_t c3]
      refine (T_90_8 ..).trans (ci_f (by decide) (bd_t e84 ((T_90_20 ..).trans ?_)))
      exact bd_t ((K_91 ..).trans ((T_91_0 ..).trans l91)) (T_90_28 ..)
    · refine (K_279 ..).trans ((T_279_0 ..).trans (bd_t (S_212 (by rw [k3]; omega)) ?_))
      rw [k3, bz_t c3]
      exact (T_279_5 ..).trans (ci_f (by decide) (bd_t e277 ((T_279_20 ..).trans e279)))
  · refine ⟨-1, I, I, ?_, ?_, hh, hx⟩
    · refine (K_90 ..).trans ((T_90_0 ..).trans (bd_t S_18 ?_))
      rw [bz_f c3]
      exact (T_90_8 ..).trans (ci_t rfl rfl)
    · refine (K_279 ..).trans ((T_279_0 ..).trans (bd_t (S_212 (by omega)) ?_))
      rw [p1.1, bz_f c3]
      exact (T_279_5 ..).trans (ci_t rfl rfl)
end FI0

