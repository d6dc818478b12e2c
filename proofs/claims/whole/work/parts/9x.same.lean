/-! within: conditions of the same text -/
def ANS (C : Option Res) (P : Prop) (h : Hp) : Prop := (P → C = some (some (0, 1), h)) ∧ (¬ P → C = some (some (0, 0), h))
theorem ANS_t {C D : Option Res} {P : Prop} {h : Hp} (e : C = D) (a : ANS D P h) : ANS C P h := ⟨fun p => e.trans (a.1 p), fun p => e.trans (a.2 p)⟩
theorem ANS_i {C : Option Res} {P Q : Prop} {h : Hp} (a : ANS C P h) (e : P ↔ Q) : ANS C Q h := ⟨fun q => a.1 (e.2 q), fun q => a.2 (fun p => q (e.1 p))⟩
theorem ANS_y {C : Option Res} {P : Prop} {h : Hp} (e : C = some (some (0, 1), h)) (p : P) : ANS C P h := ⟨fun _ => e, fun q => absurd p q⟩
theorem ANS_n {C : Option Res} {P : Prop} {h : Hp} (e : C = some (some (0, 0), h)) (p : ¬ P) : ANS C P h := ⟨fun q => absurd q p, fun _ => e⟩
/-- where the clause's condition stands, in both -/
def CBd (I : Nat → Nat → Int) (i j f t : Nat) : Prop := (2 ≤ f ∧ f ≤ t ∧ t + 1 ≤ 160) ∧ (I (tc i + 5) j = (f : Int) ∧ I (tc i + 6) j = (t : Int) ∧ I 102 (12 * i + j) = (f : Int) - 1 ∧ I 103 (12 * i + j) = (t : Int) + 1) ∧ (∀ k, k < t + 1 → I 98 (160 * i + k) = I (tc i + 1) k) ∧ I (tc i + 1) (f - 1) = 40 ∧ I (tc i + 1) t = 41
theorem CLf_B {I : Nat → Nat → Int} {L i j : Nat} (h : CLf I L i j) (hc : isC (I 99 (12 * i + j))) : ∃ f t, CBd I i j f t := by
  obtain ⟨n, bf, bt, a, b, a', b', f, ⟨g1, g2, g3, g4, g5, g6⟩, g7, _, _, _⟩ := h.2.2.2.2.1 hc
  exact ⟨bf, bt, ⟨g2, g3, by omega⟩, g7, fun k hk => g5 k (by omega), g6⟩
/-- the same length, the same bytes -/
def SMb (I : Nat → Nat → Int) (i f t i' f' t' : Nat) : Prop := t + f' = t' + f ∧ ∀ x, f + x < t → I (tc i + 1) (f + x) = I (tc i' + 1) (f' + x)
section SA0
variable {d : Nat} {I : Nat → Nat → Int} {sp rt : Nat} {tt : Nat → Nat} {z : Zs} {c L : Nat}
theorem L_97 (h : TV I tt z c L) {C : Cal} {i i' j j' f t f' t' : Nat} (hi : i < c) (hi' : i' < c) (hj : j < 12) (hj' : j' < 12) (hb : CBd I i j f t) (hb' : CBd I i' j' f' t') (hl : t + f' = t' + f) : ∀ u k, k + u = t - f → (∀ x, x < k → I (tc i + 1) (f + x) = I (tc i' + 1) (f' + x)) → ANS (Run PG C 97 38 [(2, ((tc i : Nat) : Int)), (0, (j : Int)), (2, ((tc i' : Nat) : Int)), (0, (j' : Int)), (0, ((t - f : Nat) : Int)), (0, (k : Int))] [] (I, RF sp rt tt z.1, z) (0, 0)) (SMb I i f t i' f' t') (I, RF sp rt tt z.1, z) := by
  have hx := tcL (sp := sp) (rt := rt) h hi
  have hx' := tcL (sp := sp) (rt := rt) h hi'
  have l1 : (LAY (tc i)).1 = 3 := by rw [hx.2.1]
  have l1' : (LAY (tc i')).1 = 3 := by rw [hx'.2.1]
  have t4 := hx.2.2.1
  have t4' := hx'.2.2.1
  have t9 := hx.2.2.2.2.2.2.1
  have t9' := hx'.2.2.2.2.2.2.1
  obtain ⟨b1, b2, b3, b4⟩ := hb
  obtain ⟨b1', b2', b3', b4'⟩ := hb'
  intro u
  induction u with
  | zero =>
    intro k hk he
    exact ANS_y ((T_97_38 ..).trans (ci_f (by omega) rfl)) ⟨hl, fun x hx => he x (by omega)⟩
  | succ u ih =>
    intro k hk he
    have k1 : Run PG C 97 38 [(2, ((tc i : Nat) : Int)), (0, (j : Int)), (2, ((tc i' : Nat) : Int)), (0, (j' : Int)), (0, ((t - f : Nat) : Int)), (0, (k : Int))] [] (I, RF sp rt tt z.1, z) (0, 0) = ci (I (tc i + 1) (f + k) = I (tc i' + 1) (f' + k)) (Run PG C 97 38 [(2, ((tc i : Nat) : Int)), (0, (j : Int)), (2, ((tc i' : Nat) : Int)), (0, (j' : Int)), (0, ((t - f : Nat) : Int)), (0, ((k + 1 : Nat) : Int))] [] (I, RF sp rt tt z.1, z) (0, 0)) (some (some (0, 0), (I, RF sp rt tt z.1, z))) := by
      refine (T_97_38 ..).trans ?_
      rw [show ((j : Int)).toNat = j by omega, show ((j' : Int)).toNat = j' by omega, w_n (by omega)]
      refine ci_t (by omega) (ite_t l1 (nn_t (rv_n t4.1) (ite_t l1 (nn_t (tx_a (R := I) t9).1 (ite_t (tx_a (R := I) t9).2.1 (ci_t (tx_m (tx_a (R := I) t9).2.2 hj) ?_))))))
      rw [b2.1, w32_of (x := (f : Int) + (k : Int)) (by omega) (by omega), t4.2]
      refine ite_t (Or.inl rfl) (ci_t (by omega) (ite_t l1' (nn_t (rv_n t4'.1) (ite_t l1' (nn_t (tx_a (R := I) t9').1 (ite_t (tx_a (R := I) t9').2.1 (ci_t (tx_m (tx_a (R := I) t9').2.2 hj') ?_)))))))
      rw [b2'.1, w32_of (x := (f' : Int) + (k : Int)) (by omega) (by omega), t4'.2]
      refine ite_t (Or.inl rfl) (ci_t (by omega) ?_)
      rw [show ((f : Int) + (k : Int)).toNat = f + k by omega, show ((f' : Int) + (k : Int)).toNat = f' + k by omega]
    by_cases q : I (tc i + 1) (f + k) = I (tc i' + 1) (f' + k)
    · refine ANS_t (k1.trans (ci_t q rfl)) (ih (k + 1) (by omega) (fun x hx => ?_))
      by_cases r : x = k
      · rw [r]; exact q
      · exact he x (by omega)
    · exact ANS_n (k1.trans (ci_f q rfl)) (fun r => q (r.2 k (by omega)))
theorem S_97 (h : TV I tt z c L) {i i' j j' f t f' t' : Nat} (hi : i < c) (hi' : i' < c) (hj : j < 12) (hj' : j' < 12) (hb : CBd I i j f t) (hb' : CBd I i' j' f' t') : ANS (Call PG (d + 1) 97 [(2, ((tc i : Nat) : Int)), (0, (j : Int)), (2, ((tc i' : Nat) : Int)), (0, (j' : Int))] (I, RF sp rt tt z.1, z)) (SMb I i f t i' f' t') (I, RF sp rt tt z.1, z) := by
  have hx := tcL (sp := sp) (rt := rt) h hi
  have hx' := tcL (sp := sp) (rt := rt) h hi'
  have l1 : (LAY (tc i)).1 = 3 := by rw [hx.2.1]
  have l1' : (LAY (tc i')).1 = 3 := by rw [hx'.2.1]
  have t9 := hx.2.2.2.2.2.2.1
  have t9' := hx'.2.2.2.2.2.2.1
  have t10 := hx.2.2.2.2.2.2.2.1
  have t10' := hx'.2.2.2.2.2.2.2.1
  have b1 := hb.1
  have b1' := hb'.1
  have k1 : Call PG (d + 1) 97 [(2, ((tc i : Nat) : Int)), (0, (j : Int)), (2, ((tc i' : Nat) : Int)), (0, (j' : Int))] (I, RF sp rt tt z.1, z) = ci ((t : Int) - (f : Int) = (t' : Int) - (f' : Int)) (Run PG (Call PG d) 97 38 [(2, ((tc i : Nat) : Int)), (0, (j : Int)), (2, ((tc i' : Nat) : Int)), (0, (j' : Int)), (0, (t : Int) - (f : Int)), (0, 0)] [] (I, RF sp rt tt z.1, z) (0, 0)) (some (some (0, 0), (I, RF sp rt tt z.1, z))) := by
    refine (K_97 ..).trans ((T_97_0 ..).trans ?_)
    rw [show ((j : Int)).toNat = j by omega, show ((j' : Int)).toNat = j' by omega]
    refine ite_t l1 (nn_t (tx_a (R := I) t10).1 (ite_t (tx_a (R := I) t10).2.1 (ci_t (tx_m (tx_a (R := I) t10).2.2 hj) (ite_t l1 (nn_t (tx_a (R := I) t9).1 (ite_t (tx_a (R := I) t9).2.1 (ci_t (tx_m (tx_a (R := I) t9).2.2 hj) ?_)))))))
    refine ite_t l1' (nn_t (tx_a (R := I) t10').1 (ite_t (tx_a (R := I) t10').2.1 (ci_t (tx_m (tx_a (R := I) t10').2.2 hj') (ite_t l1' (nn_t (tx_a (R := I) t9').1 (ite_t (tx_a (R := I) t9').2.1 (ci_t (tx_m (tx_a (R := I) t9').2.2 hj') ?_)))))))
    rw [hb.2.1.1, hb.2.1.2.1, hb'.2.1.1, hb'.2.1.2.1, w32_of (x := (t : Int) - (f : Int)) (by omega) (by omega), w32_of (x := (t' : Int) - (f' : Int)) (by omega) (by omega)]
  by_cases q : (t : Int) - (f : Int) = (t' : Int) - (f' : Int)
  · refine ANS_t (k1.trans (ci_t q rfl)) ?_
    rw [show (t : Int) - (f : Int) = ((t - f : Nat) : Int) by omega]
    exact L_97 (sp := sp) (rt := rt) h hi hi' hj hj' hb hb' (by omega) (t - f) 0 (by omega) (fun x hx => absurd hx (Nat.not_lt_zero x))
  · exact ANS_n (k1.trans (ci_f q rfl)) (fun r => q (by have := r.1; omega))
/-- the reference reads one sign more at each end -/
theorem SMb_98 {i i' j j' f t f' t' : Nat} (hb : CBd I i j f t) (hb' : CBd I i' j' f' t') (hl : t + f' = t' + f) : (∀ x, x < t + 2 - f → I 98 (160 * i + (f - 1) + x) = I 98 (160 * i' + (f' - 1) + x)) ↔ SMb I i f t i' f' t' := by
  obtain ⟨b1, b2, b3, b4⟩ := hb
  obtain ⟨b1', b2', b3', b4'⟩ := hb'
  refine ⟨fun r => ⟨hl, fun x hx => ?_⟩, fun r x hx => ?_⟩
  · have w := r (x + 1) (by omega)
    rw [show 160 * i + (f - 1) + (x + 1) = 160 * i + (f + x) by omega, show 160 * i' + (f' - 1) + (x + 1) = 160 * i' + (f' + x) by omega, b3 _ (by omega), b3' _ (by omega)] at w
    exact w
  · rw [show 160 * i + (f - 1) + x = 160 * i + (f - 1 + x) by omega, show 160 * i' + (f' - 1) + x = 160 * i' + (f' - 1 + x) by omega, b3 _ (by omega), b3' _ (by omega)]
    by_cases x0 : x = 0
    · rw [show f - 1 + x = f - 1 by omega, show f' - 1 + x = f' - 1 by omega, b4.1, b4'.1]
    · by_cases x1 : x = t + 1 - f
      · rw [show f - 1 + x = t by omega, show f' - 1 + x = t' by omega, b4.2, b4'.2]
      · have w := r.2 (x - 1) (by omega)
        rw [show f + (x - 1) = f - 1 + x by omega, show f' + (x - 1) = f' - 1 + x by omega] at w
        exact w
theorem L_283 {C : Cal} {i i' j j' f t f' t' : Nat} (hi : i < 30) (hi' : i' < 30) (hj : j < 12) (hj' : j' < 12) (hb : CBd I i j f t) (hb' : CBd I i' j' f' t') (hl : t + f' = t' + f) : ∀ u k, k + u = t + 2 - f → (∀ x, x < k → I 98 (160 * i + (f - 1) + x) = I 98 (160 * i' + (f' - 1) + x)) → ANS (Run PG C 283 36 [(2, 82), (0, ((12 * i + j : Nat) : Int)), (0, ((12 * i' + j' : Nat) : Int)), (0, ((t + 2 - f : Nat) : Int)), (0, (k : Int))] [] (I, RF sp rt tt z.1, z) (0, 0)) (SMb I i f t i' f' t') (I, RF sp rt tt z.1, z) := by
  have b1 := hb.1
  have b1' := hb'.1
  have b2 := hb.2.1
  have b2' := hb'.2.1
  intro u
  induction u with
  | zero =>
    intro k hk he
    exact ANS_y ((T_283_36 ..).trans (ci_f (by omega) rfl)) ((SMb_98 hb hb' hl).1 (fun x hx => he x (by omega)))
  | succ u ih =>
    intro k hk he
    have k1 : Run PG C 283 36 [(2, 82), (0, ((12 * i + j : Nat) : Int)), (0, ((12 * i' + j' : Nat) : Int)), (0, ((t + 2 - f : Nat) : Int)), (0, (k : Int))] [] (I, RF sp rt tt z.1, z) (0, 0) = ci (I 98 (160 * i + (f - 1) + k) = I 98 (160 * i' + (f' - 1) + k)) (Run PG C 283 36 [(2, 82), (0, ((12 * i + j : Nat) : Int)), (0, ((12 * i' + j' : Nat) : Int)), (0, ((t + 2 - f : Nat) : Int)), (0, ((k + 1 : Nat) : Int))] [] (I, RF sp rt tt z.1, z) (0, 0)) (some (some (0, 0), (I, RF sp rt tt z.1, z))) := by
      refine (T_283_36 ..).trans ?_
      rw [td_k, td_k, show (12 * i + j) / 12 = i by omega, show (12 * i' + j') / 12 = i' by omega, show (((12 * i + j : Nat) : Int)).toNat = 12 * i + j by omega, show (((12 * i' + j' : Nat) : Int)).toNat = 12 * i' + j' by omega, b2.2.2.1, b2'.2.2.1, w_n (p := k) (by omega), w32_of (x := (i : Int)) (by omega) (by omega), w32_of (x := (i' : Int)) (by omega) (by omega), w32_of (x := (i : Int) * 160) (by omega) (by omega), w32_of (x := (i' : Int) * 160) (by omega) (by omega), w32_of (x := (i : Int) * 160 + ((f : Int) - 1)) (by omega) (by omega), w32_of (x := (i' : Int) * 160 + ((f' : Int) - 1)) (by omega) (by omega), w32_of (x := (i : Int) * 160 + ((f : Int) - 1) + (k : Int)) (by omega) (by omega), w32_of (x := (i' : Int) * 160 + ((f' : Int) - 1) + (k : Int)) (by omega) (by omega), show ((i : Int) * 160 + ((f : Int) - 1) + (k : Int)).toNat = 160 * i + (f - 1) + k by omega, show ((i' : Int) * 160 + ((f' : Int) - 1) + (k : Int)).toNat = 160 * i' + (f' - 1) + k by omega]
      exact ci_t (by omega) (ci_t (by omega) (ci_t (by omega) (ci_t (by omega) (ci_t (by omega) rfl))))
    by_cases q : I 98 (160 * i + (f - 1) + k) = I 98 (160 * i' + (f' - 1) + k)
    · refine ANS_t (k1.trans (ci_t q rfl)) (ih (k + 1) (by omega) (fun x hx => ?_))
      by_cases r : x = k
      · rw [r]; exact q
      · exact he x (by omega)
    · exact ANS_n (k1.trans (ci_f q rfl)) (fun r => q ((SMb_98 hb hb' hl).2 r k (by omega)))
theorem S_283 {i i' j j' f t f' t' : Nat} (hi : i < 30) (hi' : i' < 30) (hj : j < 12) (hj' : j' < 12) (hb : CBd I i j f t) (hb' : CBd I i' j' f' t') : ANS (Call PG (d + 1) 283 [(2, 82), (0, ((12 * i + j : Nat) : Int)), (0, ((12 * i' + j' : Nat) : Int))] (I, RF sp rt tt z.1, z)) (SMb I i f t i' f' t') (I, RF sp rt tt z.1, z) := by
  have b1 := hb.1
  have b1' := hb'.1
  have b2 := hb.2.1
  have b2' := hb'.2.1
  have k1 : Call PG (d + 1) 283 [(2, 82), (0, ((12 * i + j : Nat) : Int)), (0, ((12 * i' + j' : Nat) : Int))] (I, RF sp rt tt z.1, z) = ci ((t' : Int) + 1 - ((f' : Int) - 1) = (t : Int) + 1 - ((f : Int) - 1)) (Run PG (Call PG d) 283 36 [(2, 82), (0, ((12 * i + j : Nat) : Int)), (0, ((12 * i' + j' : Nat) : Int)), (0, (t : Int) + 1 - ((f : Int) - 1)), (0, 0)] [] (I, RF sp rt tt z.1, z) (0, 0)) (some (some (0, 0), (I, RF sp rt tt z.1, z))) := by
    refine (K_283 ..).trans ((T_283_0 ..).trans ?_)
    rw [show (((12 * i + j : Nat) : Int)).toNat = 12 * i + j by omega, show (((12 * i' + j' : Nat) : Int)).toNat = 12 * i' + j' by omega, b2.2.2.1, b2'.2.2.1, b2.2.2.2, b2'.2.2.2, w32_of (x := (t : Int) + 1 - ((f : Int) - 1)) (by omega) (by omega), w32_of (x := (t' : Int) + 1 - ((f' : Int) - 1)) (by omega) (by omega)]
    exact ci_t (by omega) (ci_t (by omega) (ci_t (by omega) (ci_t (by omega) rfl)))
  by_cases q : (t' : Int) + 1 - ((f' : Int) - 1) = (t : Int) + 1 - ((f : Int) - 1)
  · refine ANS_t (k1.trans (ci_t q rfl)) ?_
    rw [show (t : Int) + 1 - ((f : Int) - 1) = ((t + 2 - f : Nat) : Int) by omega]
    exact L_283 hi hi' hj hj' hb hb' (by omega) (t + 2 - f) 0 (by omega) (fun x hx => absurd hx (Nat.not_lt_zero x))
  · exact ANS_n (k1.trans (ci_f q rfl)) (fun r => q (by have := r.1; omega))
end SA0

