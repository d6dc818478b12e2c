/-! broken: what both find -/
/-- the cell is broken -/
abbrev brkP (I : Nat → Nat → Int) (p day : Int) (S : SB) (L : Nat) (e : FE) (i j : Nat) : Prop := cntP I p day S i j ∧ ((I 99 (12 * i + j) = 100 ∧ ¬ cv I L i j e = 1) ∨ (I 99 (12 * i + j) = 110 ∧ ¬ cv I L i j e = 0))
noncomputable def bf (I : Nat → Nat → Int) (p day : Int) (S : SB) (L : Nat) (e : FE) : Nat → Bool := fun k => decide (brkP I p day S L e (k / 12) (k % 12))
theorem bf_t {I : Nat → Nat → Int} {p day : Int} {S : SB} {L : Nat} {e : FE} {i j : Nat} (hj : j < 12) : bf I p day S L e (12 * i + j) = true ↔ brkP I p day S L e i j := by
  unfold bf
  rw [show (12 * i + j) / 12 = i by omega, show (12 * i + j) % 12 = j by omega]
  exact decide_eq_true_iff
/-- the first heap, q cells seen -/
def BL (I : Nat → Nat → Int) (c L : Nat) (S : SB) (e : FE) (f : Nat → Bool) (J : Nat → Nat → Int) (q : Nat) : Prop :=
  (FZ I J ∧ GK J) ∧ (∀ i, i < c → ∃ v : Nat, v < 4096 ∧ J (tc i) 13 = (v : Int) ∧ ∀ k, k < 12 → v.testBit k = S i k) ∧ (∀ k, k < 12 → L.testBit k = true → J 10 k = e k) ∧ J 9 8 = ((bc f q : Nat) : Int) ∧ ∀ k, k < q → f k = true → J 24 (bc f k) = (k : Int)
theorem BL_23 {I : Nat → Nat → Int} {c L : Nat} {S : SB} {e : FE} {f : Nat → Bool} {J K : Nat → Nat → Int} {q : Nat} (h : BL I c L S e f J q) (hK : ∀ a j, ¬ a = 23 → K a j = J a j) : BL I c L S e f K q := by
  obtain ⟨⟨h1, h2⟩, h3, h4, h5, h6⟩ := h
  refine ⟨⟨FZ_t h1 (fun a b q => hK a b (by omega)), GK_Z (fun a b q => hK a b (by omega)) h2⟩, fun i hi => ?_, fun k hk hl => (hK _ _ (by omega)).trans (h4 k hk hl), (hK _ _ (by omega)).trans h5, fun k hk hf => (hK _ _ (by omega)).trans (h6 k hk hf)⟩
  obtain ⟨v, v1, v2, v3⟩ := h3 i hi
  have := tc_d i
  exact ⟨v, v1, (hK _ _ (by omega)).trans v2, v3⟩
theorem BL_sk {I : Nat → Nat → Int} {c L : Nat} {S : SB} {e : FE} {f : Nat → Bool} {J : Nat → Nat → Int} {q q' : Nat} (h : BL I c L S e f J q) (hq : q ≤ q') (hf : ∀ k, q ≤ k → k < q' → ¬ f k = true) : BL I c L S e f J q' := by
  obtain ⟨h1, h3, h4, h5, h6⟩ := h
  refine ⟨h1, h3, h4, by rw [bc_z q' hq hf]; exact h5, fun k hk hfk => h6 k ?_ hfk⟩
  by_cases r : q ≤ k
  · exact absurd hfk (hf k r hk)
  · omega
theorem BL_pu {I : Nat → Nat → Int} {c L : Nat} {S : SB} {e : FE} {f : Nat → Bool} {J : Nat → Nat → Int} {q : Nat} (h : BL I c L S e f J q) (hf : f q = true) : BL I c L S e f (up2 (up2 J 24 (bc f q) (q : Int)) 9 8 ((bc f (q + 1) : Nat) : Int)) (q + 1) := by
  obtain ⟨⟨h1, h2⟩, h3, h4, h5, h6⟩ := h
  have g : ∀ a j, ¬ a = 24 → ¬ (a = 9 ∧ j = 8) → (up2 (up2 J 24 (bc f q) (q : Int)) 9 8 ((bc f (q + 1) : Nat) : Int)) a j = J a j := fun a j q1 q2 => by
    rw [up2_def, if_neg (by omega), up2_def, if_neg (by omega)]
  refine ⟨⟨FZ_t h1 (fun a b q => g a b (by omega) (by omega)), GK_Z (fun a b q => g a b (by omega) (by omega)) h2⟩, fun i hi => ?_, fun k hk hl => (g _ _ (by omega) (by omega)).trans (h4 k hk hl), up2_eq, fun k hk hfk => ?_⟩
  · obtain ⟨v, v1, v2, v3⟩ := h3 i hi
    have := tc_d i
    exact ⟨v, v1, (g _ _ (by omega) (by omega)).trans v2, v3⟩
  · rw [up2_def, if_neg (by omega)]
    by_cases r : k = q
    · rw [r]; exact up2_eq
    · have := bc_mo (f := f) (m := k + 1) q (by omega)
      rw [bc_1 hfk] at this
      rw [up2_def, if_neg (by omega)]
      exact h6 k (by omega) hfk
section BR0
variable {d : Nat} {I : Nat → Nat → Int} {sp rt : Nat} {tt : Nat → Nat} {z : Zs} {c L : Nat} {e : FE} {S : SB}
theorem S_86 (h : TV I tt z c L) {i j m : Nat} (hi : i < c) (hm : TXf I L i m) (hj : j < m) {J : Nat → Nat → Int} (hJ : FZ I J) {v : Nat} (hv : v < 4096 ∧ J (tc i) 13 = (v : Int) ∧ v.testBit j = S i j) (he : ∀ k, k < 12 → L.testBit k = true → J 10 k = e k) : ∃ K, Call PG (d + 3) 86 [(2, 9), (2, ((tc i : Nat) : Int)), (0, (j : Int))] (J, RF sp rt tt z.1, z) = some (some (0, bz (S i j = false ∧ ((I 99 (12 * i + j) = 100 ∧ ¬ cv I L i j e = 1) ∨ (I 99 (12 * i + j) = 110 ∧ ¬ cv I L i j e = 0)))), (K, RF sp rt tt z.1, z)) ∧ ∀ a j, ¬ a = 23 → K a j = J a j := by
  have hc := h.1
  obtain ⟨r1, r2, r3⟩ := FZ_rows hJ (i := i)
  have hx := tcL (sp := sp) (rt := rt) h hi
  have l1 : (LAY (tc i)).1 = 3 := by rw [hx.2.1]
  have t2 := hx.2.2.2.1
  have m12 := hm.1
  have ek : J (tc i + 2) j = I 99 (12 * i + j) := by rw [r1 2 (by decide) (by decide)]; exact (hm.2.2.2 j hj).2.1
  have hb := bit32 hv.1 (show j < 12 by omega)
  have s52 := S_52 (d := d + 1) (I := J) (sp := sp) (rt := rt) (tt := tt) (z := z) (t := tc i) (j := (j : Int)) l1
  rw [hv.2.1] at s52
  by_cases q0 : S i j = false
  · have k1 : Call PG (d + 3) 86 [(2, 9), (2, ((tc i : Nat) : Int)), (0, (j : Int))] (J, RF sp rt tt z.1, z) = Run PG (Call PG (d + 2)) 86 5 [(2, 9), (2, ((tc i : Nat) : Int)), (0, (j : Int))] [(0, 0)] (J, RF sp rt tt z.1, z) (0, 0) := by
      refine (K_86 ..).trans ((T_86_0 ..).trans (ite_t (decide_eq_true l1) (bd_t s52 ?_)))
      rw [bz_f (fun r => r (hb.2 (hv.2.2.trans q0)))]
      rfl
    have t5 := T_86_5 (Call PG (d + 2)) J sp rt tt z (tc i) (j : Int) 0
    rw [show ((j : Int)).toNat = j by omega] at t5
    have hcl := fun hcc : isC (I 99 (12 * i + j)) => C_81 (d := d) (sp := sp) (rt := rt) h hi hm hj hcc (J := J) (fun a b q1 q2 => by
        have w := r1 (a - tc i) (by omega) (by omega)
        rw [show tc i + (a - tc i) = a by omega] at w
        exact congrFun w b) he
    by_cases qd : I 99 (12 * i + j) = 100
    · obtain ⟨s, e81⟩ := hcl (by omega)
      refine ⟨pc J 23 s, k1.trans (t5.trans (ci_t rfl (ite_t l1 (nn_t (tx_a (R := I) t2).1 (ite_t (tx_a (R := I) t2).2.1 (ci_t (tx_m (tx_a (R := I) t2).2.2 (by omega)) ?_)))))), fun a b q => pc_ne q⟩
      rw [ek]
      refine ci_t qd (bd_t e81 ((T_86_27 ..).trans ?_))
      by_cases qv : cv I L i j e = 1
      · rw [bz_f (fun r => r.2.elim (fun w => w.2 qv) (fun w => absurd (qd.symm.trans w.1) (by decide)))]
        exact ci_t qv rfl
      · rw [bz_t ⟨q0, Or.inl ⟨qd, qv⟩⟩]
        exact ci_f qv rfl
    · by_cases qn : I 99 (12 * i + j) = 110
      · obtain ⟨s, e81⟩ := hcl (by omega)
        refine ⟨pc J 23 s, k1.trans (t5.trans (ci_t rfl (ite_t l1 (nn_t (tx_a (R := I) t2).1 (ite_t (tx_a (R := I) t2).2.1 (ci_t (tx_m (tx_a (R := I) t2).2.2 (by omega)) ?_)))))), fun a b q => pc_ne q⟩
        rw [ek]
        refine ci_f qd (ite_t l1 (nn_t (tx_a (R := I) t2).1 (ite_t (tx_a (R := I) t2).2.1 (ci_t (tx_m (tx_a (R := I) t2).2.2 (by omega)) ?_))))
        rw [ek]
        refine ci_t qn (bd_t e81 ((T_86_54 ..).trans ?_))
        by_cases qv : cv I L i j e = 0
        · rw [bz_f (fun r => r.2.elim (fun w => qd w.1) (fun w => w.2 qv))]
          exact ci_t qv rfl
        · rw [bz_t ⟨q0, Or.inr ⟨qn, qv⟩⟩]
          exact ci_f qv rfl
      · refine ⟨J, k1.trans (t5.trans (ci_t rfl (ite_t l1 (nn_t (tx_a (R := I) t2).1 (ite_t (tx_a (R := I) t2).2.1 (ci_t (tx_m (tx_a (R := I) t2).2.2 (by omega)) ?_)))))), fun _ _ _ => rfl⟩
        rw [ek]
        refine ci_f qd (ite_t l1 (nn_t (tx_a (R := I) t2).1 (ite_t (tx_a (R := I) t2).2.1 (ci_t (tx_m (tx_a (R := I) t2).2.2 (by omega)) ?_))))
        rw [ek, bz_f (fun r => r.2.elim (fun w => qd w.1) (fun w => qn w.1))]
        exact ci_f qn rfl
  · refine ⟨J, (K_86 ..).trans ((T_86_0 ..).trans (ite_t (decide_eq_true l1) (bd_t s52 ?_))), fun _ _ _ => rfl⟩
    rw [bz_t (show ¬ ia32 (shr32 (v : Int) (j : Int)) 1 = 0 from fun r => q0 (hv.2.2.symm.trans (hb.1 r))), bz_f (fun r => q0 r.1)]
    exact (T_86_5 ..).trans (ci_f (by decide) rfl)
theorem L_85c (h : TV I tt z c L) {p day : Int} {i m : Nat} (hi : i < c) (hm : TXf I L i m) (hf : forP I p day i) : ∀ (u j : Nat) (J : Nat → Nat → Int), j + u = m → BL I c L S e (bf I p day S L e) J (12 * i + j) → ∃ (K : Nat → Nat → Int) (x : Int), Run PG (Call PG (d + 3)) 85 24 [(2, 9), (0, p), (0, day), (0, (i : Int)), (0, (j : Int))] [] (J, RF sp rt tt z.1, z) (0, 0) = Run PG (Call PG (d + 3)) 85 13 [(2, 9), (0, p), (0, day), (0, ((i + 1 : Nat) : Int)), (0, x)] [] (K, RF sp rt tt z.1, z) (0, 0) ∧ BL I c L S e (bf I p day S L e) K (12 * (i + 1)) := by
  have hc := h.1
  have hx := tcL (sp := sp) (rt := rt) h hi
  have l1 : (LAY (tc i)).1 = 3 := by rw [hx.2.1]
  have r11 := rf11 (sp := sp) (rt := rt) h hi
  have m12 := hm.1
  intro u
  induction u with
  | zero =>
    intro j J hj hJ
    obtain ⟨r1, r2, r3⟩ := FZ_rows hJ.1.1 (i := i)
    have e5 : J (tc i) 5 = (m : Int) := (r3 5 (by decide)).trans hm.2.1.1
    refine ⟨J, (j : Int), ?_, BL_sk hJ (by omega) (fun k h1 h2 r => ?_)⟩
    · refine (T_85_24 ..).trans ?_
      rw [show ((i : Int)).toNat = i by omega]
      refine ci_t (by omega) (nn_t r11 (ite_t l1 ?_))
      rw [e5, w_n (by omega)]
      exact ci_f (by omega) rfl
    · obtain ⟨k', rfl⟩ : ∃ k', k = 12 * i + k' := ⟨k - 12 * i, by omega⟩
      have w := ((bf_t (by omega)).1 r).1.2.1
      have := hm.2.1.2
      omega
  | succ u ih =>
    intro j J hj hJ
    obtain ⟨r1, r2, r3⟩ := FZ_rows hJ.1.1 (i := i)
    have e5 : J (tc i) 5 = (m : Int) := (r3 5 (by decide)).trans hm.2.1.1
    have e0 : J (tc i) 0 = I 94 i := (r3 0 (by decide)).trans hm.2.2.1.1.symm
    have e1 : J (tc i) 1 = I 95 i := (r3 1 (by decide)).trans hm.2.2.1.2.1.symm
    have e2 : J (tc i) 2 = I 96 i := (r3 2 (by decide)).trans hm.2.2.1.2.2.symm
    obtain ⟨v, v1, v2, v3⟩ := hJ.2.1 i hi
    obtain ⟨K, e86, hK⟩ := S_86 (d := d) (sp := sp) (rt := rt) (e := e) (S := S) h hi hm (show j < m by omega) hJ.1.1 ⟨v1, v2, v3 j (by omega)⟩ hJ.2.2.1
    have hB := BL_23 hJ hK
    have hl := bc_le (f := bf I p day S L e) (12 * i + j)
    have k9 : K 9 8 = ((bc (bf I p day S L e) (12 * i + j) : Nat) : Int) := hB.2.2.2.1
    have k1 : Run PG (Call PG (d + 3)) 85 24 [(2, 9), (0, p), (0, day), (0, (i : Int)), (0, (j : Int))] [] (J, RF sp rt tt z.1, z) (0, 0) = Run PG (Call PG (d + 3)) 85 64 [(2, 9), (0, p), (0, day), (0, (i : Int)), (0, (j : Int))] [(0, bz (S i j = false ∧ ((I 99 (12 * i + j) = 100 ∧ ¬ cv I L i j e = 1) ∨ (I 99 (12 * i + j) = 110 ∧ ¬ cv I L i j e = 0))))] (K, RF sp rt tt z.1, z) (0, 0) := by
      refine (T_85_24 ..).trans ?_
      rw [show ((i : Int)).toNat = i by omega]
      refine ci_t (by omega) (nn_t r11 (ite_t l1 ?_))
      rw [e5]
      refine ci_t (by omega) (ci_t (by omega) (nn_t r11 (ite_t (decide_eq_true l1) (bd_t (S_49 l1) ?_))))
      rw [e0, e1, e2, bz_t hf]
      refine (T_85_49 ..).trans (ci_f (by decide) ?_)
      rw [show ((i : Int)).toNat = i by omega]
      refine ci_t (by omega) (nn_t r11 (bd_t e86 rfl))
    have hcm : (j : Int) < I 97 i := by have := hm.2.1.2; omega
    by_cases q : S i j = false ∧ ((I 99 (12 * i + j) = 100 ∧ ¬ cv I L i j e = 1) ∨ (I 99 (12 * i + j) = 110 ∧ ¬ cv I L i j e = 0))
    · have hq : bf I p day S L e (12 * i + j) = true := (bf_t (by omega)).2 ⟨⟨hf, hcm, q.1⟩, q.2⟩
      have hP := BL_pu hB hq
      rw [bc_1 hq] at hP
      obtain ⟨K2, x, e2, hK2⟩ := ih (j + 1) _ (by omega) hP
      refine ⟨K2, x, k1.trans (Eq.trans ?_ e2), hK2⟩
      rw [bz_t q]
      refine (T_85_64 ..).trans (ci_f (by decide) ?_)
      rw [k9, w_n (by omega), w_n (by omega), w32_of (x := (i : Int) * 12) (by omega) (by omega), w32_of (x := (i : Int) * 12 + (j : Int)) (by omega) (by omega), show (i : Int) * 12 + (j : Int) = ((12 * i + j : Nat) : Int) by omega]
      exact ci_t (by omega) rfl
    · obtain ⟨K2, x, e2, hK2⟩ := ih (j + 1) K (by omega) (BL_sk hB (by omega) (fun k h1 h2 r => q (by
        rw [show k = 12 * i + j by omega] at r
        have w := (bf_t (by omega)).1 r
        exact ⟨w.1.2.2, w.2⟩)))
      refine ⟨K2, x, k1.trans (Eq.trans ?_ e2), hK2⟩
      rw [bz_f q]
      refine (T_85_64 ..).trans (ci_t rfl ?_)
      rw [w_n (by omega)]
theorem L_85b (h : TV I tt z c L) {p day : Int} : ∀ (u i : Nat) (J : Nat → Nat → Int) (x4 : AV), dl x4 → i + u = c → BL I c L S e (bf I p day S L e) J (12 * i) → ∃ K, Run PG (Call PG (d + 3)) 85 13 [(2, 9), (0, p), (0, day), (0, (i : Int)), x4] [] (J, RF sp rt tt z.1, z) (0, 0) = some (some (0, ((bc (bf I p day S L e) (12 * c) : Nat) : Int)), (K, RF sp rt tt z.1, z)) ∧ BL I c L S e (bf I p day S L e) K (12 * c) := by
  have hc := h.1
  intro u
  induction u with
  | zero =>
    intro i J x4 h4 hi hJ
    rw [show i = c by omega] at hJ ⊢
    have j9 : J 9 1 = (c : Int) := (hJ.1.1 9 1 (by decide)).trans h.2.1.1
    refine ⟨J, (T_85_13 _ _ _ _ _ _ _ _ _ _ h4).trans ?_, hJ⟩
    rw [j9, hJ.2.2.2.1]
    exact ci_f (by omega) rfl
  | succ u ih =>
    intro i J x4 h4 hi hJ
    have j9 : J 9 1 = (c : Int) := (hJ.1.1 9 1 (by decide)).trans h.2.1.1
    have hx := tcL (sp := sp) (rt := rt) h (show i < c by omega)
    have l1 : (LAY (tc i)).1 = 3 := by rw [hx.2.1]
    have r11 := rf11 (sp := sp) (rt := rt) h (show i < c by omega)
    obtain ⟨m, hm⟩ := h.2.2.2.2 i (by omega)
    have k1 : Run PG (Call PG (d + 3)) 85 13 [(2, 9), (0, p), (0, day), (0, (i : Int)), x4] [] (J, RF sp rt tt z.1, z) (0, 0) = Run PG (Call PG (d + 3)) 85 24 [(2, 9), (0, p), (0, day), (0, (i : Int)), (0, ((0 : Nat) : Int))] [] (J, RF sp rt tt z.1, z) (0, 0) := by
      refine (T_85_13 _ _ _ _ _ _ _ _ _ _ h4).trans ?_
      rw [j9]
      exact ci_t (by omega) rfl
    by_cases hf : forP I p day i
    · obtain ⟨K1, x, e1, hK1⟩ := L_85c (d := d) (sp := sp) (rt := rt) (S := S) (e := e) h (show i < c by omega) hm hf m 0 J (by omega) hJ
      obtain ⟨K, e2, hK⟩ := ih (i + 1) K1 (0, x) (dl0 _) (by omega) hK1
      exact ⟨K, k1.trans (e1.trans e2), hK⟩
    · obtain ⟨r1, r2, r3⟩ := FZ_rows hJ.1.1 (i := i)
      have m12 := hm.1
      have e5 : J (tc i) 5 = (m : Int) := (r3 5 (by decide)).trans hm.2.1.1
      have e0 : J (tc i) 0 = I 94 i := (r3 0 (by decide)).trans hm.2.2.1.1.symm
      have e1 : J (tc i) 1 = I 95 i := (r3 1 (by decide)).trans hm.2.2.1.2.1.symm
      have e2 : J (tc i) 2 = I 96 i := (r3 2 (by decide)).trans hm.2.2.1.2.2.symm
      obtain ⟨K, e3, hK⟩ := ih (i + 1) J (0, ((0 : Nat) : Int)) (dl0 _) (by omega) (BL_sk hJ (by omega) (fun k h1 h2 r => by
        obtain ⟨k', rfl⟩ : ∃ k', k = 12 * i + k' := ⟨k - 12 * i, by omega⟩
        exact hf ((bf_t (by omega)).1 r).1.1))
      refine ⟨K, k1.trans (Eq.trans ?_ e3), hK⟩
      refine (T_85_24 ..).trans ?_
      rw [show ((i : Int)).toNat = i by omega]
      refine ci_t (by omega) (nn_t r11 (ite_t l1 ?_))
      rw [e5]
      refine ci_t (by omega) (ci_t (by omega) (nn_t r11 (ite_t (decide_eq_true l1) (bd_t (S_49 l1) ?_))))
      rw [e0, e1, e2, bz_f hf]
      refine (T_85_49 ..).trans (ci_t rfl ?_)
      rw [w_n (by omega)]
theorem S_85 (h : TV I tt z c L) {p day : Int} {J : Nat → Nat → Int} (hJ : FZ I J) (gJ : GK J) (he : ∀ k, k < 12 → L.testBit k = true → J 10 k = e k) : ∃ K, Call PG (d + 4) 85 [(2, 9), (0, p), (0, day)] (J, RF sp rt tt z.1, z) = some (some (0, ((bc (bf I p day (STK I p day c (fun _ _ => false)) L e) (12 * c) : Nat) : Int)), (K, RF sp rt tt z.1, z)) ∧ BL I c L (STK I p day c (fun _ _ => false)) e (bf I p day (STK I p day c (fun _ _ => false)) L e) K (12 * c) := by
  obtain ⟨K1, e51, hK1⟩ := S_51 (d := d) (sp := sp) (rt := rt) (TV_Z hJ h) (p := p) (day := day)
  rw [STK_Z hJ] at hK1
  have g : ∀ a j, ¬ j = 13 → (up2 K1 9 8 0) a j = if a = 9 ∧ j = 8 then 0 else J a j := fun a j q => by
    rw [up2_def]
    by_cases r : a = 9 ∧ j = 8
    · rw [if_pos r, if_pos r]
    · rw [if_neg r, if_neg r]; exact hK1.1 a j (fun w => q w.1)
  have hB : BL I c L (STK I p day c (fun _ _ => false)) e (bf I p day (STK I p day c (fun _ _ => false)) L e) (up2 K1 9 8 0) (12 * 0) := by
    refine ⟨⟨FZ_t (FZ_t hJ (SCl_Z hK1)) (fun a b q => by rw [up2_def, if_neg (by omega)]), GK_Z (fun a b q => ?_) (GK_Z (I := J) (J := K1) (fun a b q => hK1.1 a b (fun r => ?_)) gJ)⟩, fun i hi => ?_, fun k hk hl => ?_, up2_eq, fun k hk => absurd hk (by omega)⟩
    · rw [up2_def, if_neg (by omega)]
    · obtain ⟨r1, i, r2, r3⟩ := r
      have := tc_d i
      omega
    · obtain ⟨v, v1, v2, v3⟩ := hK1.2 i hi
      exact ⟨v, v1, by rw [up2_def, if_neg (by omega)]; exact v2, v3⟩
    · rw [g _ _ (by omega), if_neg (by omega)]
      exact he k hk hl
  obtain ⟨K, e2, hK⟩ := L_85b (d := d) (sp := sp) (rt := rt) h (p := p) (day := day) c 0 _ (9, 0) dl9 (by omega) hB
  exact ⟨K, (K_85 ..).trans ((T_85_0 ..).trans (bd_t e51 ((T_85_6 ..).trans e2))), hK⟩
theorem S_84 (h : TV I tt z c L) (h95 : I 9 5 = (L : Int)) (hL : L < 4096) (hh : InvS I ∧ GN0 I ∧ GK I) {p : Int} (hp : 0 ≤ p ∧ p < I 2 6) : ∃ K, Call PG (d + 8) 84 [(2, 0), (0, p)] (I, RF sp rt tt z.1, z) = some (some (0, ((bc (bf I p (Int.tdiv (I 0 0) 1440) (STK I p (Int.tdiv (I 0 0) 1440) c (fun _ _ => false)) L (fct I p)) (12 * c) : Nat) : Int)), (K, RF sp rt tt z.1, z)) ∧ BL I c L (STK I p (Int.tdiv (I 0 0) 1440) c (fun _ _ => false)) (fct I p) (bf I p (Int.tdiv (I 0 0) 1440) (STK I p (Int.tdiv (I 0 0) 1440) c (fun _ _ => false)) L (fct I p)) K (12 * c) := by
  have t0 := hh.1.1.1
  have hd := day_b t0.2
  obtain ⟨K, e56, hK1, hK2, hK3⟩ := S_56 (d := d) (sp := sp) (rt := rt) (tt := tt) (z := z) hh.1 hh.2.1 hh.2.2 hp h95 hL
  have Z1 := FL_Z hK1
  obtain ⟨K2, e85, hK⟩ := S_85 (d := d + 3) (sp := sp) (rt := rt) h (p := p) (day := Int.tdiv (I 0 0) 1440) Z1 hK2 (e := fct I p) (fun k h1 h2 => hK3 k ⟨h1, h2⟩)
  refine ⟨K2, (K_84 ..).trans ((T_84_0 ..).trans (bd_t e56 ((T_84_5 ..).trans (bd_t S_47 ?_)))), hK⟩
  rw [Z1 0 0 (by decide), w32_of (x := Int.tdiv (I 0 0) 1440) (by omega) (by omega)]
  refine (T_84_14 ..).trans (bd_t e85 ?_)
  exact T_84_17 ..
end BR0

