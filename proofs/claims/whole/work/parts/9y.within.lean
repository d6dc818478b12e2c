/-! within: both answer alike -/
abbrev ODk (I : Nat → Nat → Int) (i j i' j' : Nat) : Prop := (I 99 (12 * i + j) = 100 ∧ I 99 (12 * i' + j') = 110) ∨ (I 99 (12 * i + j) = 110 ∧ I 99 (12 * i' + j') = 100)
/-- the two clauses are at odds -/
def ODD (I : Nat → Nat → Int) (i j i' j' : Nat) : Prop := ODk I i j i' j' ∧ ∃ f t f' t', CBd I i j f t ∧ CBd I i' j' f' t' ∧ SMb I i f t i' f' t'
theorem ODD_i {I : Nat → Nat → Int} {i j i' j' f t f' t' : Nat} (hk : ODk I i j i' j') (hb : CBd I i j f t) (hb' : CBd I i' j' f' t') : SMb I i f t i' f' t' ↔ ODD I i j i' j' := by
  refine ⟨fun s => ⟨hk, f, t, f', t', hb, hb', s⟩, fun r => ?_⟩
  obtain ⟨_, g, s, g', s', c1, c2, w⟩ := r
  have e1 : g = f := by have := c1.2.1.1; have := hb.2.1.1; omega
  have e2 : s = t := by have := c1.2.1.2.1; have := hb.2.1.2.1; omega
  have e3 : g' = f' := by have := c2.2.1.1; have := hb'.2.1.1; omega
  have e4 : s' = t' := by have := c2.2.1.2.1; have := hb'.2.1.2.1; omega
  rw [e1, e2, e3, e4] at w
  exact w
section WI0
variable {d : Nat} {I : Nat → Nat → Int} {sp rt : Nat} {tt : Nat → Nat} {z : Zs} {c L : Nat}
theorem S_97o (h : TV I tt z c L) {i i' j j' m m' : Nat} (hi : i < c) (hi' : i' < c) (hm : TXf I L i m) (hm' : TXf I L i' m') (hj : j < m) (hj' : j' < m') (hk : ODk I i j i' j') : ANS (Call PG (d + 1) 97 [(2, ((tc i : Nat) : Int)), (0, (j : Int)), (2, ((tc i' : Nat) : Int)), (0, (j' : Int))] (I, RF sp rt tt z.1, z)) (ODD I i j i' j') (I, RF sp rt tt z.1, z) := by
  have m12 := hm.1
  have m12' := hm'.1
  obtain ⟨f, t, hb⟩ := CLf_B (hm.2.2.2 j hj) (by omega)
  obtain ⟨f', t', hb'⟩ := CLf_B (hm'.2.2.2 j' hj') (by omega)
  exact ANS_i (S_97 (d := d) (sp := sp) (rt := rt) h hi hi' (by omega) (by omega) hb hb') (ODD_i hk hb hb')
theorem S_96s (h : TV I tt z c L) {C : Cal} {i i' j j' m m' : Nat} (hi : i < c) (hi' : i' < c) (hm : TXf I L i m) (hm' : TXf I L i' m') (hj : j < m) (hj' : j' < m') {x4 : AV} (h4 : dl x4) : (ODk I i j i' j' → Run PG C 96 12 [(2, ((tc i : Nat) : Int)), (2, ((tc i' : Nat) : Int)), (0, (j : Int)), (0, (j' : Int)), x4] [] (I, RF sp rt tt z.1, z) (0, 0) = bd (C 97 [(2, ((tc i : Nat) : Int)), (0, (j : Int)), (2, ((tc i' : Nat) : Int)), (0, (j' : Int))] (I, RF sp rt tt z.1, z)) (fun v h => Run PG C 96 83 [(2, ((tc i : Nat) : Int)), (2, ((tc i' : Nat) : Int)), (0, (j : Int)), (0, (j' : Int)), (0, 1)] (v.toList ++ []) h (0, 0))) ∧ (¬ ODk I i j i' j' → Run PG C 96 12 [(2, ((tc i : Nat) : Int)), (2, ((tc i' : Nat) : Int)), (0, (j : Int)), (0, (j' : Int)), x4] [] (I, RF sp rt tt z.1, z) (0, 0) = Run PG C 96 12 [(2, ((tc i : Nat) : Int)), (2, ((tc i' : Nat) : Int)), (0, (j : Int)), (0, ((j' + 1 : Nat) : Int)), (0, 0)] [] (I, RF sp rt tt z.1, z) (0, 0)) := by
  have hx := tcL (sp := sp) (rt := rt) h hi
  have hx' := tcL (sp := sp) (rt := rt) h hi'
  have l1 : (LAY (tc i)).1 = 3 := by rw [hx.2.1]
  have l1' : (LAY (tc i')).1 = 3 := by rw [hx'.2.1]
  have t2 := hx.2.2.2.1
  have t2' := hx'.2.2.2.1
  have m12 := hm.1
  have m12' := hm'.1
  have e5 : I (tc i') 5 = (m' : Int) := hm'.2.1.1
  have ek : I (tc i + 2) j = I 99 (12 * i + j) := (hm.2.2.2 j hj).2.1
  have ek' : I (tc i' + 2) j' = I 99 (12 * i' + j') := (hm'.2.2.2 j' hj').2.1
  have t12 := T_96_12 C I sp rt tt z (tc i) (tc i') (j : Int) (j' : Int) x4 h4
  have t42 := T_96_42 C I sp rt tt z (tc i) (tc i') (j : Int) (j' : Int) x4 h4
  rw [show ((j : Int)).toNat = j by omega, show ((j' : Int)).toNat = j' by omega] at t12 t42
  rw [w_n (by omega)] at t42
  rw [e5] at t12
  have t12' := t12.trans (ite_t l1' (ci_t (by omega) rfl))
  have p42 : ¬ (I 99 (12 * i + j) = 100 ∧ I 99 (12 * i' + j') = 110) → Run PG C 96 12 [(2, ((tc i : Nat) : Int)), (2, ((tc i' : Nat) : Int)), (0, (j : Int)), (0, (j' : Int)), x4] [] (I, RF sp rt tt z.1, z) (0, 0) = Run PG C 96 42 [(2, ((tc i : Nat) : Int)), (2, ((tc i' : Nat) : Int)), (0, (j : Int)), (0, (j' : Int)), x4] [] (I, RF sp rt tt z.1, z) (0, 0) := fun q => by
    refine t12'.trans (ite_t l1 (nn_t (tx_a (R := I) t2).1 (ite_t (tx_a (R := I) t2).2.1 (ci_t (tx_m (tx_a (R := I) t2).2.2 (by omega)) ?_))))
    rw [ek]
    by_cases q1 : I 99 (12 * i + j) = 100
    · refine ci_t q1 (ite_t l1' (nn_t (tx_a (R := I) t2').1 (ite_t (tx_a (R := I) t2').2.1 (ci_t (tx_m (tx_a (R := I) t2').2.2 (by omega)) ?_))))
      rw [ek']
      exact ci_f (fun r => q ⟨q1, r⟩) rfl
    · exact ci_f q1 rfl
  refine ⟨fun hk => ?_, fun hk => (p42 (fun r => hk (Or.inl r))).trans (t42.trans ?_)⟩
  · by_cases q : I 99 (12 * i + j) = 100 ∧ I 99 (12 * i' + j') = 110
    · refine t12'.trans (ite_t l1 (nn_t (tx_a (R := I) t2).1 (ite_t (tx_a (R := I) t2).2.1 (ci_t (tx_m (tx_a (R := I) t2).2.2 (by omega)) ?_))))
      rw [ek]
      refine ci_t q.1 (ite_t l1' (nn_t (tx_a (R := I) t2').1 (ite_t (tx_a (R := I) t2').2.1 (ci_t (tx_m (tx_a (R := I) t2').2.2 (by omega)) ?_))))
      rw [ek']
      exact ci_t q.2 (ci_f (by decide) (ite_t (decide_eq_true l1) rfl))
    · have r : I 99 (12 * i + j) = 110 ∧ I 99 (12 * i' + j') = 100 := hk.resolve_left q
      refine (p42 q).trans (t42.trans (ite_t l1 (nn_t (tx_a (R := I) t2).1 (ite_t (tx_a (R := I) t2).2.1 (ci_t (tx_m (tx_a (R := I) t2).2.2 (by omega)) ?_)))))
      rw [ek]
      refine ci_t r.1 (ite_t l1' (nn_t (tx_a (R := I) t2').1 (ite_t (tx_a (R := I) t2').2.1 (ci_t (tx_m (tx_a (R := I) t2').2.2 (by omega)) ?_))))
      rw [ek']
      exact ci_t r.2 (ci_f (by decide) (ite_t (decide_eq_true l1) rfl))
  · refine ite_t l1 (nn_t (tx_a (R := I) t2).1 (ite_t (tx_a (R := I) t2).2.1 (ci_t (tx_m (tx_a (R := I) t2).2.2 (by omega)) ?_)))
    rw [ek]
    by_cases q1 : I 99 (12 * i + j) = 110
    · refine ci_t q1 (ite_t l1' (nn_t (tx_a (R := I) t2').1 (ite_t (tx_a (R := I) t2').2.1 (ci_t (tx_m (tx_a (R := I) t2').2.2 (by omega)) ?_))))
      rw [ek']
      exact ci_f (fun r => hk (Or.inr ⟨q1, r⟩)) (ci_t rfl rfl)
    · exact ci_f q1 (ci_t rfl rfl)
theorem L_96b (h : TV I tt z c L) {i i' j m m' : Nat} (hi : i < c) (hi' : i' < c) (hm : TXf I L i m) (hm' : TXf I L i' m') (hj : j < m) {P : Prop} (hout : ∀ x3 x4 : AV, dl x3 → dl x4 → ANS (Run PG (Call PG (d + 1)) 96 2 [(2, ((tc i : Nat) : Int)), (2, ((tc i' : Nat) : Int)), (0, ((j + 1 : Nat) : Int)), x3, x4] [] (I, RF sp rt tt z.1, z) (0, 0)) P (I, RF sp rt tt z.1, z)) : ∀ (u y : Nat) (x4 : AV), dl x4 → y + u = m' → ANS (Run PG (Call PG (d + 1)) 96 12 [(2, ((tc i : Nat) : Int)), (2, ((tc i' : Nat) : Int)), (0, (j : Int)), (0, (y : Int)), x4] [] (I, RF sp rt tt z.1, z) (0, 0)) ((∃ x, y ≤ x ∧ x < m' ∧ ODD I i j i' x) ∨ P) (I, RF sp rt tt z.1, z) := by
  have hx' := tcL (sp := sp) (rt := rt) h hi'
  have l1' : (LAY (tc i')).1 = 3 := by rw [hx'.2.1]
  have m12 := hm.1
  have m12' := hm'.1
  intro u
  induction u with
  | zero =>
    intro y x4 h4 hy
    refine ANS_t ?_ (ANS_i (hout (0, (y : Int)) x4 (dl0 _) h4) ⟨fun p => Or.inr p, fun r => r.elim (fun ⟨x, q1, q2, _⟩ => absurd q2 (by omega)) id⟩)
    refine (T_96_12 _ _ _ _ _ _ _ _ _ _ _ h4).trans (ite_t l1' ?_)
    rw [hm'.2.1.1, show w32 ((j : Int) + 1) = ((j + 1 : Nat) : Int) from w_n (by omega)]
    exact ci_f (by omega) rfl
  | succ u ih =>
    intro y x4 h4 hy
    have st := S_96s (sp := sp) (rt := rt) (C := Call PG (d + 1)) h hi hi' hm hm' hj (show y < m' by omega) h4
    by_cases q : ODk I i j i' y
    · have a := S_97o (d := d) (sp := sp) (rt := rt) h hi hi' hm hm' hj (show y < m' by omega) q
      by_cases r : ODD I i j i' y
      · exact ANS_y ((st.1 q).trans (bd_t (a.1 r) ((T_96_83 ..).trans (ci_f (by decide) rfl)))) (Or.inl ⟨y, Nat.le_refl _, by omega, r⟩)
      · refine ANS_t ((st.1 q).trans (bd_t (a.2 r) ((T_96_83 ..).trans (ci_t rfl ?_)))) (ANS_i (ih (y + 1) (0, 1) (dl0 _) (by omega)) ⟨fun v => v.elim (fun ⟨x, q1, q2, q3⟩ => Or.inl ⟨x, by omega, q2, q3⟩) Or.inr, fun v => v.elim (fun ⟨x, q1, q2, q3⟩ => Or.inl ⟨x, by
          by_cases e : x = y
          · exact absurd (e ▸ q3) r
          · omega, q2, q3⟩) Or.inr⟩)
        rw [w_n (by omega)]
    · refine ANS_t (st.2 q) (ANS_i (ih (y + 1) (0, 0) (dl0 _) (by omega)) ⟨fun v => v.elim (fun ⟨x, q1, q2, q3⟩ => Or.inl ⟨x, by omega, q2, q3⟩) Or.inr, fun v => v.elim (fun ⟨x, q1, q2, q3⟩ => Or.inl ⟨x, by
          by_cases e : x = y
          · exact absurd (e ▸ q3.1) q
          · omega, q2, q3⟩) Or.inr⟩)
theorem L_96a (h : TV I tt z c L) {i i' m m' : Nat} (hi : i < c) (hi' : i' < c) (hm : TXf I L i m) (hm' : TXf I L i' m') : ∀ (u x : Nat) (x3 x4 : AV), dl x3 → dl x4 → x + u = m → ANS (Run PG (Call PG (d + 1)) 96 2 [(2, ((tc i : Nat) : Int)), (2, ((tc i' : Nat) : Int)), (0, (x : Int)), x3, x4] [] (I, RF sp rt tt z.1, z) (0, 0)) (∃ a b, x ≤ a ∧ a < m ∧ b < m' ∧ ODD I i a i' b) (I, RF sp rt tt z.1, z) := by
  have hx := tcL (sp := sp) (rt := rt) h hi
  have l1 : (LAY (tc i)).1 = 3 := by rw [hx.2.1]
  have m12 := hm.1
  intro u
  induction u with
  | zero =>
    intro x x3 x4 h3 h4 hu
    refine ANS_n ?_ (fun ⟨a, b, q1, q2, _⟩ => absurd q2 (by omega))
    refine (T_96_2 _ _ _ _ _ _ _ _ _ _ _ h3 h4).trans (ite_t l1 ?_)
    rw [hm.2.1.1]
    exact ci_f (by omega) rfl
  | succ u ih =>
    intro x x3 x4 h3 h4 hu
    have b := L_96b (d := d) (sp := sp) (rt := rt) h hi hi' hm hm' (show x < m by omega) (fun y3 y4 g3 g4 => ih (x + 1) y3 y4 g3 g4 (by omega)) m' 0 x4 h4 (by omega)
    refine ANS_t ?_ (ANS_i b ⟨fun v => v.elim (fun ⟨y, _, q2, q3⟩ => ⟨x, y, Nat.le_refl _, by omega, q2, q3⟩) (fun ⟨a, y, q1, q2, q3⟩ => ⟨a, y, by omega, q2, q3⟩), fun ⟨a, y, q1, q2, q3, q4⟩ => ?_⟩)
    · refine (T_96_2 _ _ _ _ _ _ _ _ _ _ _ h3 h4).trans (ite_t l1 ?_)
      rw [hm.2.1.1]
      exact ci_t (by omega) rfl
    · by_cases e : a = x
      · exact Or.inl ⟨y, Nat.zero_le _, q3, e ▸ q4⟩
      · exact Or.inr ⟨a, y, by omega, q2, q3, q4⟩
end WI0

