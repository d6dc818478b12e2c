/-! texts: clauses -/
abbrev CLM : Type := Int × Int × Int × Nat × Nat × FM
def NUMU (q : Nat → Int) (u : Int) (i : Nat) : Int ⊕ (Nat × Int) := match NUM q i with
  | .inl e => .inl e
  | .inr (j, v) => if v ≤ u then .inr (j, v) else .inl (fau 3 i)
abbrev isC (c : Int) : Prop := c = 100 ∨ c = 110 ∨ c = 119
abbrev isL (c : Int) : Prop := isC c ∨ c = 102 ∨ c = 120
def nof : FM := fun _ => none
def CLX (q : Nat → Int) (i : Nat) : Int ⊕ (Nat × CLM) := match NUMU q 29 (i + 1) with
  | .inl e => .inl e
  | .inr (j, v) => if q j = 46 then (match NUMU q 11 (j + 1) with
    | .inl e => .inl e
    | .inr (j2, w) => .inr (j2, (120, v, w, 0, 0, nof))) else .inl (fau 1 j)
def CLF (q : Nat → Int) (i : Nat) : Int ⊕ (Nat × CLM) := match NUM q (i + 1) with
  | .inl e => .inl e
  | .inr (j, v) => .inr (j, (102, v, 0, 0, 0, nof))
def CLW (q : Nat → Int) (c : Int) (i j : Nat) (f : FM) : Int ⊕ (Nat × CLM) := match NUM q (j + 1) with
  | .inl e => .inl e
  | .inr (j2, v) => .inr (j2, (c, v, 0, i + 2, j, f))
def CLQ (q : Nat → Int) (c : Int) (i : Nat) : Int ⊕ (Nat × CLM) :=
  if q (i + 1) = 40 then (match COND q (PIECE q 5) (i + 2) with
    | .inl e => .inl e
    | .inr (j, f) => if q j = 41 then (if c = 119 then CLW q c i j f else .inr (j + 1, (c, 0, 0, i + 2, j, f))) else .inl (fau 1 j))
  else .inl (fau 1 (i + 1))
def CLAUSE (q : Nat → Int) (i : Nat) : Int ⊕ (Nat × CLM) :=
  if q i = 120 then CLX q i else if q i = 102 then CLF q i else if isC (q i) then CLQ q (q i) i else .inl (fau 1 i)
/-- all clauses from i on; k may still come -/
def RDL (q : Nat → Int) (n : Nat) : Nat → Nat → Int ⊕ List CLM
  | 0, i => .inl (if isL (q i) then fau 4 i else fau 1 i)
  | k + 1, i => match CLAUSE q i with
    | .inl e => .inl e
    | .inr (j, c) => if n ≤ j then .inr [c] else if q j = 59 then (match RDL q n k (j + 1) with
      | .inl e => .inl e
      | .inr l => .inr (c :: l)) else .inl (fau 1 j)
/-- a clause as its text holds it, number m -/
def KC (T : Nat) (I : Nat → Nat → Int) (co : Nat → Int) (le u m : Nat) (c : CLM) : Prop :=
  I (T + 2) m = c.1 ∧ (c.1 = 102 ∨ c.1 = 119 → I (T + 3) m = c.2.1) ∧ (c.1 = 120 → I (T + 3) m = c.2.1 ∧ I (T + 4) m = c.2.2.1) ∧
  (isC c.1 → I (T + 5) m = (c.2.2.2.1 : Int) ∧ I (T + 6) m = (c.2.2.2.2.1 : Int) ∧ ∃ a b : Nat, I (T + 7) m = (a : Int) ∧ I (T + 8) m = (b : Int) ∧ b ≤ u ∧ Cd (fun k => le.testBit k = true) co a b 14 c.2.2.2.2.2)
/-- only clauses from m on, and how many there are, have changed -/
def FRT (T m : Nat) (I J : Nat → Nat → Int) : Prop := ∀ a j, ¬ (T + 2 ≤ a ∧ a ≤ T + 8 ∧ m ≤ j) → ¬ (a = T ∧ j = 5) → J a j = I a j
theorem FRT_r {T m : Nat} {I : Nat → Nat → Int} : FRT T m I I := fun _ _ _ _ => rfl
theorem FRT_t {T m : Nat} {I J K : Nat → Nat → Int} (h : FRT T m I J) (h2 : FRT T m J K) : FRT T m I K := fun a j c1 c2 => (h2 a j c1 c2).trans (h a j c1 c2)
theorem FRT_le {T m m' : Nat} {I J : Nat → Nat → Int} (h : FRT T m' I J) (hm : m ≤ m') : FRT T m I J := fun a j c1 c2 => h a j (fun q => c1 ⟨q.1, q.2.1, by omega⟩) c2
theorem FRT_u {T m j : Nat} {I : Nat → Nat → Int} {a : Nat} {x : Int} (h : (T + 2 ≤ a ∧ a ≤ T + 8 ∧ m ≤ j) ∨ (a = T ∧ j = 5)) : FRT T m I (up2 I a j x) := fun b k c1 c2 => by
  unfold up2
  exact if_neg (fun q => h.elim (fun r => c1 ⟨by omega, by omega, by omega⟩) (fun r => c2 ⟨by omega, by omega⟩))
theorem FRT_B {T m : Nat} {I J : Nat → Nat → Int} (h : FRT T m I J) : J (T + 1) = I (T + 1) := funext (fun j => h _ _ (by omega) (by omega))
theorem CX_f {I J : Nat → Nat → Int} {sp rt : Nat} {tt : Nat → Nat} {z : Zs} {T n m : Nat} (h : CX I sp rt tt z T n) (f : FRT T m I J) : CX J sp rt tt z T n := ⟨h.1, h.2.1, (f T 3 (by omega) (by omega)).trans h.2.2.1, h.2.2.2⟩
theorem hu_I {T : Nat} {I : Nat → Nat → Int} {p cl : Nat} {va fc le : Int} {co : Nat → Int} {x : Int} {a j : Nat} (h1 : ¬ a = 22) (h2 : ¬ a = T ∨ (¬ j = 15 ∧ ¬ j = 16)) (h3 : ¬ a = T + 9) : up2 (HC T I p va fc cl le co) a j x = HC T (up2 I a j x) p va fc cl le co := by
  funext b k
  show (if b = a ∧ k = j then x else HC T I p va fc cl le co b k) = HC T (up2 I a j x) p va fc cl le co b k
  by_cases h : b = a ∧ k = j
  · obtain ⟨rfl, rfl⟩ := h
    rw [if_pos ⟨rfl, rfl⟩]
    unfold HC
    rw [if_neg (fun q => h1 q.1), if_neg (fun q => h1 q.1), if_neg (fun q => h1 q.1), if_neg (by omega), if_neg (by omega), if_neg h3, up2_eq]
  · have e : up2 I a j x b k = I b k := by
      unfold up2
      exact if_neg h
    rw [if_neg h]
    unfold HC
    rw [e]
theorem TX_d {T : Nat} {R : Nat → Nat → Int} (h : TX T R) : T + 9 < 22 ∨ 22 < T := by
  have h := h.1
  omega
def RCl (T : Nat) (I : Nat → Nat → Int) (sp rt : Nat) (tt : Nat → Nat) (z : Zs) (n m a p0 : Nat) (fc : Int) (le : Nat) (co : Nat → Int) (r : Int ⊕ (Nat × CLM)) (res : Option Res) : Prop :=
  ∃ (v : Int) (J : Nat → Nat → Int) (p' : Nat) (va' fc' : Int) (cl' le' : Nat) (co' : Nat → Int), res = some (some (0, v), (HC T J p' va' fc' cl' le' co', RF sp rt tt z.1, z)) ∧ FRT T m I J ∧ match r with
    | .inl e => v = 0 ∧ fc' = e
    | .inr (j, c) => v = 1 ∧ p' = j ∧ fc' = fc ∧ (a ≤ cl' ∧ cl' + p0 ≤ a + j ∧ p0 < j ∧ j ≤ n) ∧ (∀ x, x < a → co' x = co x) ∧ le' < 4096 ∧ (∀ k, le.testBit k = true → le'.testBit k = true) ∧ KC T J co' le' cl' m c ∧ J T 5 = (m : Int) + 1
theorem NUMU_ok {q : Nat → Int} {n : Nat} (h : OQ q n) {u : Int} {i j : Nat} {v : Int} (e : NUMU q u i = .inr (j, v)) : i < j ∧ j ≤ n ∧ 0 ≤ v ∧ v ≤ u := by
  unfold NUMU at e
  cases hn : NUM q i with
  | inl e0 => rw [hn] at e; cases e
  | inr w =>
    obtain ⟨j1, v1⟩ := w
    rw [hn] at e
    dsimp only at e
    split at e
    · cases e
      have h1 := (NUM_ok h i).2 _ _ hn
      have h2 := NUM_v hn
      exact ⟨h1.1, h1.2.1, h2.1, ‹_›⟩
    · cases e
section CL0
variable {I : Nat → Nat → Int} {sp rt : Nat} {tt : Nat → Nat} {z : Zs} {T n : Nat}
theorem C_32 (h : CX I sp rt tt z T n) {d p cl : Nat} {va fc le : Int} {co : Nat → Int} {u : Int} (hp : p ≤ n) : ∃ (p' : Nat) (va' : Int), Call PG (d + 4) 32 [(2, 22), (0, u)] (HC T I p va fc cl le co, RF sp rt tt z.1, z) = (match NUMU (qc (I (T + 1)) n) u p with
    | .inl e => some (some (0, 0), (HC T I p' va' e cl le co, RF sp rt tt z.1, z))
    | .inr (j, w) => some (some (0, 1), (HC T I j w fc cl le co, RF sp rt tt z.1, z))) := by
  have hm := h.2.2.2
  obtain ⟨p', va', e⟩ := S_33 (d := d) (va := va) (fc := fc) (cl := cl) (le := le) (co := co) h hp
  unfold NUMU
  have k0 : Call PG (d + 4) 32 [(2, 22), (0, u)] (HC T I p va fc cl le co, RF sp rt tt z.1, z) = bd (Call PG (d + 3) 33 [(2, 22)] (HC T I p va fc cl le co, RF sp rt tt z.1, z)) (fun v h => Run PG (Call PG (d + 3)) 32 9 [(2, 22), (0, u), (0, (p : Int))] (v.toList ++ []) h (0, 0)) := by
    refine (K_32 ..).trans ?_
    refine (T_32_0 ..).trans ?_
    rw [hc_1]
  cases hn : NUM (qc (I (T + 1)) n) p with
  | inl e0 =>
    rw [hn] at e
    refine ⟨p', va', k0.trans (bd_t e ?_)⟩
    refine (T_32_9 ..).trans ?_
    exact ci_t rfl rfl
  | inr w =>
    obtain ⟨j, v⟩ := w
    rw [hn] at e
    dsimp only
    by_cases c : v ≤ u
    · refine ⟨j, v, k0.trans (bd_t e ?_)⟩
      refine (T_32_9 ..).trans ?_
      rw [if_pos c, hc_2]
      exact ci_f (by decide) (ci_t c rfl)
    · refine ⟨j, v, k0.trans (bd_t e ?_)⟩
      refine (T_32_9 ..).trans ?_
      rw [if_neg c, hc_2]
      refine ci_f (by decide) (ci_f c (bd_t (S_30 (by decide) (by omega)) ?_))
      refine (T_32_28 ..).trans ?_
      exact ci_t rfl rfl
theorem tx_a {R : Nat → Nat → Int} {k : Nat} {r : Int} {x : Nat} (h : r = ((T + k + 1 : Nat) : Int) ∧ LAY (T + k) = (20, x)) : r.toNat = (T + k) + 1 ∧ (LAY (T + k)).1 = 20 ∧ (LAY (T + k)).2 = x := ⟨rv_n h.1, by rw [h.2], by rw [h.2]⟩
theorem tx_m {L m : Nat} (h : L = 12) (hm : m < 12) : 0 ≤ (m : Int) ∧ (m : Int) < (L : Int) := by omega
theorem C_31 (h : CX I sp rt tt z T n) {d m p cl : Nat} {va fc : Int} {le : Nat} {co : Nat → Int} (hp : p + 1 ≤ n) (hm : m < 12) (hle : le < 4096) (hk : I (T + 2) m = 120) (h5 : I T 5 = (m : Int) + 1) (hcl : cl ≤ p) : RCl T I sp rt tt z n m cl p fc le co (CLX (qc (I (T + 1)) n) p) (Call PG (d + 5) 31 [(2, 22), (0, (m : Int))] (HC T I (p + 1) va fc cl le co, RF sp rt tt z.1, z)) := by
  have hq := qc_OQ (I (T + 1)) n
  have hn := h.2.2.2
  have hh := h
  obtain ⟨hr, ⟨_, hL, _, _, t3, t4, _⟩, _⟩ := hh
  have hT := TX_d h.2.1
  have l1 : (LAY T).1 = 3 := by rw [hL]
  refine q_tr (K_31 ..) (q_tr (T_31_0 ..) ?_)
  obtain ⟨p1, va1, e1⟩ := C_32 (d := d) (va := va) (fc := fc) (cl := cl) (le := le) (co := co) (u := 29) h hp
  unfold CLX
  cases hn1 : NUMU (qc (I (T + 1)) n) 29 (p + 1) with
  | inl e0 =>
    rw [hn1] at e1
    refine q_bd e1 (q_tr (T_31_6 ..) (q_ct rfl ?_))
    exact ⟨0, I, p1, va1, _, cl, le, co, rfl, FRT_r, rfl, rfl⟩
  | inr w =>
    obtain ⟨j, v⟩ := w
    rw [hn1] at e1
    have o1 := NUMU_ok hq hn1
    refine q_bd e1 (q_tr (T_31_6 ..) (q_cf (by decide) (q_nn hr (q_it l1 (q_nn (tx_a (R := I) t3).1 (q_it (tx_a (R := I) t3).2.1 (q_ct (tx_m (tx_a (R := I) t3).2.2 (by omega)) ?_)))))))
    rw [hc_2, show ((m : Int)).toNat = m by omega, hu_I (by omega) (by omega) (by omega)]
    have f1 : FRT T m I (up2 I (T + 3) m v) := FRT_u (Or.inl (by omega))
    have h1 := CX_f h f1
    have b1 := FRT_B f1
    have s35 := S_35 (d := d + 2) (va := v) (fc := fc) (cl := cl) (le := le) (co := co) (c := 46) h1 (p := j) (by omega)
    rw [b1] at s35
    dsimp only
    by_cases c : qc (I (T + 1)) n j = 46
    · have hl := OQ_lt hq (by decide) c
      rw [if_pos c] at s35 ⊢
      refine q_bd s35 (q_tr (T_31_30 ..) (q_cf (by decide) ?_))
      obtain ⟨p2, va2, e2⟩ := C_32 (d := d) (va := v) (fc := fc) (cl := cl) (le := le) (co := co) (u := 11) h1 (p := j + 1) (by omega)
      rw [b1] at e2
      cases hn2 : NUMU (qc (I (T + 1)) n) 11 (j + 1) with
      | inl e0 =>
        rw [hn2] at e2
        refine q_bd e2 (q_tr (T_31_39 ..) (q_ct rfl ?_))
        exact ⟨0, _, p2, va2, _, cl, le, co, rfl, f1, rfl, rfl⟩
      | inr w2 =>
        obtain ⟨j2, w⟩ := w2
        rw [hn2] at e2
        have o2 := NUMU_ok hq hn2
        refine q_bd e2 (q_tr (T_31_39 ..) (q_cf (by decide) (q_nn hr (q_it l1 (q_nn (tx_a (R := I) t4).1 (q_it (tx_a (R := I) t4).2.1 (q_ct (tx_m (tx_a (R := I) t4).2.2 (by omega)) ?_)))))))
        rw [hc_2, show ((m : Int)).toNat = m by omega, hu_I (by omega) (by omega) (by omega)]
        have f2 : FRT T m I (up2 (up2 I (T + 3) m v) (T + 4) m w) := FRT_t f1 (FRT_u (Or.inl (by omega)))
        refine ⟨1, _, j2, w, fc, cl, le, co, rfl, f2, rfl, rfl, rfl, by omega, fun _ _ => rfl, hle, fun _ q => q, ⟨?_, fun q => by rcases q with q | q <;> (change (120 : Int) = _ at q; omega), fun _ => ⟨?_, ?_⟩, fun q => by rcases q with q | q | q <;> (change (120 : Int) = _ at q; omega)⟩, ?_⟩
        · rw [up2_ne (by omega), up2_ne (by omega)]
          exact hk
        · rw [up2_ne (by omega)]
          exact up2_eq
        · exact up2_eq
        · rw [up2_ne (by omega), up2_ne (by omega)]
          exact h5
    · rw [if_neg c] at s35 ⊢
      refine q_bd s35 (q_tr (T_31_30 ..) (q_ct rfl ?_))
      exact ⟨0, _, j, v, _, cl, le, co, rfl, f1, rfl, rfl⟩
theorem C_28 (h : CX I sp rt tt z T n) {E m p cl : Nat} {va fc : Int} {le : Nat} {co : Nat → Int} (hE : 29 ≤ E) (hp : p ≤ n) (hm : m ≤ 12) (hle : le < 4096) (hcl : cl ≤ p) : RCl T I sp rt tt z n m cl p fc le co (if m = 12 then .inl (if isL (qc (I (T + 1)) n p) then fau 4 p else fau 1 p) else CLAUSE (qc (I (T + 1)) n) p) (Call PG (E + 1) 28 [(2, 22), (0, (m : Int))] (HC T I p va fc cl le co, RF sp rt tt z.1, z)) := by
  obtain ⟨d, rfl⟩ : ∃ d, E = d + 5 := ⟨E - 5, by omega⟩
  have hq := qc_OQ (I (T + 1)) n
  have hn := h.2.2.2
  have hh := h
  obtain ⟨hr, ⟨_, hL, _, t2, t3, t4, t5, t6, t7, t8, _⟩, _⟩ := hh
  have hT := TX_d h.2.1
  have l1 : (LAY T).1 = 3 := by rw [hL]
  refine q_tr (K_28 ..) (q_tr (T_28_0 ..) (q_bd (S_29 h) ?_))
  by_cases hL0 : isL (qc (I (T + 1)) n p)
  · have hl := OQ_lt hq (c := qc (I (T + 1)) n p) (by omega) rfl
    have k4 : Run PG (Call PG (d + 5)) 28 4 [(2, 22), (0, (m : Int)), (9, 0)] [(0, qc (I (T + 1)) n p)] (HC T I p va fc cl le co, RF sp rt tt z.1, z) (0, 0) = Run PG (Call PG (d + 5)) 28 45 [(2, 22), (0, (m : Int)), (0, qc (I (T + 1)) n p)] [] (HC T I p va fc cl le co, RF sp rt tt z.1, z) (0, 0) := by
      refine (T_28_4 ..).trans ?_
      by_cases c1 : qc (I (T + 1)) n p = 100
      · exact ci_t c1 rfl
      · by_cases c2 : qc (I (T + 1)) n p = 110
        · exact ci_f c1 (ci_t c2 rfl)
        · by_cases c3 : qc (I (T + 1)) n p = 119
          · exact ci_f c1 (ci_f c2 (ci_t c3 rfl))
          · by_cases c4 : qc (I (T + 1)) n p = 102
            · exact ci_f c1 (ci_f c2 (ci_f c3 (ci_t c4 rfl)))
            · exact ci_f c1 (ci_f c2 (ci_f c3 (ci_f c4 (ci_t (by omega) rfl))))
    refine q_tr k4 (q_tr (T_28_45 ..) ?_)
    by_cases cm : m = 12
    · rw [if_pos cm, if_pos hL0]
      rw [hc_1]
      refine q_cf (by omega) (q_bd (S_30 (by decide) (by omega)) (q_tr (T_28_60 ..) (q_it (Or.inl rfl) ?_)))
      exact ⟨0, I, p, va, _, cl, le, co, rfl, FRT_r, rfl, rfl⟩
    · rw [if_neg cm]
      refine q_ct (by omega) (q_nn hr (q_it l1 (q_nn (tx_a (R := I) t2).1 (q_it (tx_a (R := I) t2).2.1 (q_ct (tx_m (tx_a (R := I) t2).2.2 (by omega)) (q_nn hr (q_it l1 ?_)))))))
      have eH : up2 (up2 (up2 (HC T I p va fc cl le co) 22 1 (w32 (HC T I p va fc cl le co 22 1 + 1))) (T + 2) ((m : Int)).toNat (qc (I (T + 1)) n p)) T 5 (w32 ((m : Int) + 1)) = HC T (up2 (up2 I (T + 2) m (qc (I (T + 1)) n p)) T 5 ((m + 1 : Nat) : Int)) (p + 1) va fc cl le co := by
        rw [hc_1, w_n (by omega), hu_1, show ((m : Int)).toNat = m by omega, hu_I (by omega) (by omega) (by omega), w_n (by omega), hu_I (by omega) (Or.inr ⟨by decide, by decide⟩) (by omega)]
      rw [eH]
      have f1 : FRT T m I (up2 (up2 I (T + 2) m (qc (I (T + 1)) n p)) T 5 ((m + 1 : Nat) : Int)) := FRT_t (FRT_u (Or.inl (by omega))) (FRT_u (Or.inr ⟨rfl, rfl⟩))
      have e1 : (up2 (up2 I (T + 2) m (qc (I (T + 1)) n p)) T 5 ((m + 1 : Nat) : Int)) (T + 2) m = qc (I (T + 1)) n p := by simp (disch := omega) only [up2_ne, up2_eq]
      have e2 : (up2 (up2 I (T + 2) m (qc (I (T + 1)) n p)) T 5 ((m + 1 : Nat) : Int)) T 5 = (m : Int) + 1 := by
        rw [up2_eq]
        omega
      generalize hI1 : up2 (up2 I (T + 2) m (qc (I (T + 1)) n p)) T 5 ((m + 1 : Nat) : Int) = I1 at *
      have h1 := CX_f h f1
      have b1 := FRT_B f1
      unfold CLAUSE
      by_cases c1 : qc (I (T + 1)) n p = 120
      · rw [if_pos c1]
        refine q_ct c1 ?_
        obtain ⟨v, J, p', va', fc', cl', le', co', e, f, oc⟩ := C_31 (d := d) (va := va) (fc := fc) (co := co) h1 (by omega) (by omega) hle (e1.trans c1) e2 hcl
        rw [b1] at oc
        cases hr : CLX (qc (I (T + 1)) n) p with
        | inl e0 =>
          rw [hr] at oc
          obtain ⟨rfl, rfl⟩ := oc
          exact q_bd e (q_tr (T_28_102 ..) (q_it (Or.inl rfl) ⟨0, J, p', va', _, cl', le', co', rfl, FRT_t f1 f, rfl, rfl⟩))
        | inr w =>
          obtain ⟨j, c⟩ := w
          rw [hr] at oc
          obtain ⟨rfl, oc⟩ := oc
          exact q_bd e (q_tr (T_28_102 ..) (q_it (Or.inr rfl) ⟨1, J, p', va', _, cl', le', co', rfl, FRT_t f1 f, rfl, oc⟩))
      · rw [if_neg c1]
        refine q_cf c1 ?_
        by_cases c2 : qc (I (T + 1)) n p = 102
        · rw [if_pos c2]
          refine q_ct c2 (q_ct c2 ?_)
          obtain ⟨p', va', e⟩ := S_33 (d := d + 2) (va := va) (fc := fc) (cl := cl) (le := le) (co := co) (p := p + 1) h1 (by omega)
          rw [b1] at e
          unfold CLF
          cases hr2 : NUM (qc (I (T + 1)) n) (p + 1) with
          | inl e0 =>
            rw [hr2] at e
            exact q_bd e (q_tr (T_28_215 ..) (q_ct rfl ⟨0, I1, p', va', _, cl, le, co, rfl, f1, rfl, rfl⟩))
          | inr w =>
            obtain ⟨j, v⟩ := w
            rw [hr2] at e
            have o1 := (NUM_ok hq (p + 1)).2 _ _ hr2
            refine q_bd e (q_tr (T_28_215 ..) (q_cf (by decide) (q_nn hr (q_it l1 (q_nn (tx_a (R := I) t3).1 (q_it (tx_a (R := I) t3).2.1 (q_ct (tx_m (tx_a (R := I) t3).2.2 (by omega)) ?_)))))))
            rw [hc_2, show ((m : Int)).toNat = m by omega, hu_I (by omega) (by omega) (by omega)]
            refine ⟨1, _, j, v, fc, cl, le, co, rfl, FRT_t f1 (FRT_u (Or.inl (by omega))), rfl, rfl, rfl, by omega, fun _ _ => rfl, hle, fun _ q => q, ⟨?_, fun _ => ?_, (fun q => by change (102 : Int) = 120 at q; omega), fun q => by rcases q with q | q | q <;> (change (102 : Int) = _ at q; omega)⟩, ?_⟩
            · rw [up2_ne (by omega)]
              exact e1.trans c2
            · exact up2_eq
            · rw [up2_ne (by omega)]
              exact e2
        · have c3 : isC (qc (I (T + 1)) n p) := by omega
          rw [if_neg c2, if_pos c3]
          refine q_cf c2 (q_nn hr (q_it l1 (q_nn (tx_a (R := I) t5).1 (q_it (tx_a (R := I) t5).2.1 (q_ct (tx_m (tx_a (R := I) t5).2.2 (by omega)) (q_nn hr (q_it l1 (q_nn (tx_a (R := I) t7).1 (q_nn hr (q_it l1 (q_it (tx_a (R := I) t7).2.1 (q_ct (tx_m (tx_a (R := I) t7).2.2 (by omega)) ?_))))))))))))
          rw [hc_1, w_n (by omega), hu_I (by omega) (by omega) (by omega), hc_15 (by omega), hu_I (by omega) (by omega) (by omega), show ((m : Int)).toNat = m by omega]
          have f2 : FRT T m I (up2 (up2 I1 (T + 5) m ((p + 1 + 1 : Nat) : Int)) (T + 7) m (cl : Int)) := FRT_t f1 (FRT_t (FRT_u (Or.inl (by omega))) (FRT_u (Or.inl (by omega))))
          have e3 : (up2 (up2 I1 (T + 5) m ((p + 1 + 1 : Nat) : Int)) (T + 7) m (cl : Int)) (T + 2) m = qc (I (T + 1)) n p ∧ (up2 (up2 I1 (T + 5) m ((p + 1 + 1 : Nat) : Int)) (T + 7) m (cl : Int)) T 5 = (m : Int) + 1 ∧ (up2 (up2 I1 (T + 5) m ((p + 1 + 1 : Nat) : Int)) (T + 7) m (cl : Int)) (T + 5) m = ((p + 1 + 1 : Nat) : Int) ∧ (up2 (up2 I1 (T + 5) m ((p + 1 + 1 : Nat) : Int)) (T + 7) m (cl : Int)) (T + 7) m = (cl : Int) := by
            simp (disch := omega) only [up2_ne, up2_eq, e1, e2, and_self]
          generalize hI2 : up2 (up2 I1 (T + 5) m ((p + 1 + 1 : Nat) : Int)) (T + 7) m (cl : Int) = I2 at *
          have h2 := CX_f h f2
          have b2 := FRT_B f2
          have s35 := S_35 (d := d + 3) (va := va) (fc := fc) (cl := cl) (le := le) (co := co) (c := 40) h2 (p := p + 1) (by omega)
          rw [b2] at s35
          unfold CLQ
          by_cases c4 : qc (I (T + 1)) n (p + 1) = 40
          · have hl2 := OQ_lt hq (by decide) c4
            rw [if_pos c4] at s35 ⊢
            refine q_bd s35 (q_tr (T_28_146 ..) (q_cf (by decide) ?_))
            obtain ⟨v, p', va', fc', cl', le', co', e, oc⟩ := C_COND h2 hE (p + 1 + 1) cl va fc le co (by omega) (by omega) hle
            rw [b2] at oc
            refine q_bd e (q_tr (T_28_154 ..) ?_)
            cases hr2 : COND (qc (I (T + 1)) n) (PIECE (qc (I (T + 1)) n) 5) (p + 2) with
            | inl e0 =>
              rw [hr2] at oc
              obtain ⟨rfl, rfl⟩ := oc
              exact q_ct rfl ⟨0, I2, p', va', _, cl', le', co', rfl, f2, rfl, rfl⟩
            | inr w =>
              obtain ⟨j, f⟩ := w
              rw [hr2] at oc
              obtain ⟨rfl, rfl, rfl, o1, o2, o3, o4, o5⟩ := oc
              refine q_cf (by decide) (q_nn hr (q_it l1 (q_nn (tx_a (R := I) t6).1 (q_it (tx_a (R := I) t6).2.1 (q_ct (tx_m (tx_a (R := I) t6).2.2 (by omega)) (q_nn hr (q_it l1 (q_nn (tx_a (R := I) t8).1 (q_nn hr (q_it l1 (q_it (tx_a (R := I) t8).2.1 (q_ct (tx_m (tx_a (R := I) t8).2.2 (by omega)) ?_))))))))))))
              rw [hc_1, hu_I (by omega) (by omega) (by omega), hc_15 (by omega), hu_I (by omega) (by omega) (by omega), show ((m : Int)).toNat = m by omega]
              have f3 : FRT T m I (up2 (up2 I2 (T + 6) m (p' : Int)) (T + 8) m (cl' : Int)) := FRT_t f2 (FRT_t (FRT_u (Or.inl (by omega))) (FRT_u (Or.inl (by omega))))
              have e4 : (up2 (up2 I2 (T + 6) m (p' : Int)) (T + 8) m (cl' : Int)) (T + 2) m = qc (I (T + 1)) n p ∧ (up2 (up2 I2 (T + 6) m (p' : Int)) (T + 8) m (cl' : Int)) T 5 = (m : Int) + 1 ∧ (up2 (up2 I2 (T + 6) m (p' : Int)) (T + 8) m (cl' : Int)) (T + 5) m = ((p + 1 + 1 : Nat) : Int) ∧ (up2 (up2 I2 (T + 6) m (p' : Int)) (T + 8) m (cl' : Int)) (T + 7) m = (cl : Int) ∧ (up2 (up2 I2 (T + 6) m (p' : Int)) (T + 8) m (cl' : Int)) (T + 6) m = (p' : Int) ∧ (up2 (up2 I2 (T + 6) m (p' : Int)) (T + 8) m (cl' : Int)) (T + 8) m = (cl' : Int) := by
                simp (disch := omega) only [up2_ne, up2_eq, e3.1, e3.2.1, e3.2.2.1, e3.2.2.2, and_self]
              generalize hI3 : up2 (up2 I2 (T + 6) m (p' : Int)) (T + 8) m (cl' : Int) = I3 at *
              have h3 := CX_f h f3
              have b3 := FRT_B f3
              have s35b := S_35 (d := d + 3) (va := va') (fc := fc') (cl := cl') (le := le') (co := co') (c := 41) h3 (p := p') (by omega)
              rw [b3] at s35b
              dsimp only
              by_cases c5 : qc (I (T + 1)) n p' = 41
              · have hl3 := OQ_lt hq (by decide) c5
                rw [if_pos c5] at s35b ⊢
                refine q_bd s35b (q_tr (T_28_194 ..) (q_cf (by decide) (q_cf c2 ?_)))
                have kc : ∀ x : Int, KC T (up2 I3 (T + 3) m x) co' le' cl' m (qc (I (T + 1)) n p, x, 0, p + 2, p', f) := fun x => ⟨(up2_ne (by omega)).trans e4.1, fun _ => up2_eq, fun q => absurd q c1, fun _ => ⟨(up2_ne (by omega)).trans e4.2.2.1, (up2_ne (by omega)).trans e4.2.2.2.2.1, cl, cl', (up2_ne (by omega)).trans e4.2.2.2.1, (up2_ne (by omega)).trans e4.2.2.2.2.2, Nat.le_refl _, o5⟩⟩
                by_cases c6 : qc (I (T + 1)) n p = 119
                · rw [if_pos c6]
                  refine q_ct c6 ?_
                  obtain ⟨p2, va2, e5⟩ := S_33 (d := d + 2) (va := va') (fc := fc') (cl := cl') (le := le') (co := co') (p := p' + 1) h3 (by omega)
                  rw [b3] at e5
                  unfold CLW
                  cases hr3 : NUM (qc (I (T + 1)) n) (p' + 1) with
                  | inl e0 =>
                    rw [hr3] at e5
                    exact q_bd e5 (q_tr (T_28_215 ..) (q_ct rfl ⟨0, I3, p2, va2, _, cl', le', co', rfl, f3, rfl, rfl⟩))
                  | inr w =>
                    obtain ⟨j2, v⟩ := w
                    rw [hr3] at e5
                    have o6 := (NUM_ok hq (p' + 1)).2 _ _ hr3
                    refine q_bd e5 (q_tr (T_28_215 ..) (q_cf (by decide) (q_nn hr (q_it l1 (q_nn (tx_a (R := I) t3).1 (q_it (tx_a (R := I) t3).2.1 (q_ct (tx_m (tx_a (R := I) t3).2.2 (by omega)) ?_)))))))
                    rw [hc_2, show ((m : Int)).toNat = m by omega, hu_I (by omega) (by omega) (by omega)]
                    exact ⟨1, _, j2, v, fc', cl', le', co', rfl, FRT_t f3 (FRT_u (Or.inl (by omega))), rfl, rfl, rfl, by omega, o2, o3, o4, kc v, (up2_ne (by omega)).trans e4.2.1⟩
                · rw [if_neg c6]
                  refine q_cf c6 (q_nn hr (q_it l1 (q_nn (tx_a (R := I) t3).1 (q_it (tx_a (R := I) t3).2.1 (q_ct (tx_m (tx_a (R := I) t3).2.2 (by omega)) ?_)))))
                  rw [hc_2, show ((m : Int)).toNat = m by omega, hu_I (by omega) (by omega) (by omega)]
                  have kc0 : KC T (up2 I3 (T + 3) m va') co' le' cl' m (qc (I (T + 1)) n p, 0, 0, p + 2, p', f) := ⟨(kc va').1, fun q => by rcases q with q | q; exact absurd q c2; exact absurd q c6, fun q => absurd q c1, (kc va').2.2.2⟩
                  exact ⟨1, _, p' + 1, va', fc', cl', le', co', rfl, FRT_t f3 (FRT_u (Or.inl (by omega))), rfl, rfl, rfl, by omega, o2, o3, o4, kc0, (up2_ne (by omega)).trans e4.2.1⟩
              · rw [if_neg c5] at s35b ⊢
                exact q_bd s35b (q_tr (T_28_194 ..) (q_ct rfl ⟨0, I3, p', va', _, cl', le', co', rfl, f3, rfl, rfl⟩))
          · rw [if_neg c4] at s35 ⊢
            exact q_bd s35 (q_tr (T_28_146 ..) (q_ct rfl ⟨0, I2, p + 1, va, _, cl, le, co, rfl, f2, rfl, rfl⟩))
  · have hx : (if m = 12 then (.inl (if isL (qc (I (T + 1)) n p) then fau 4 p else fau 1 p) : Int ⊕ (Nat × CLM)) else CLAUSE (qc (I (T + 1)) n) p) = .inl (fau 1 p) := by
      unfold CLAUSE
      by_cases cm : m = 12
      · rw [if_pos cm, if_neg hL0]
      · rw [if_neg cm, if_neg (by omega), if_neg (by omega), if_neg (by omega)]
    rw [hx]
    refine q_tr (T_28_4 ..) (q_cf (by omega) (q_cf (by omega) (q_cf (by omega) (q_cf (by omega) (q_cf (by omega) ?_)))))
    rw [hc_1]
    refine q_bd (S_30 (by decide) (by omega)) (q_tr (T_28_44 ..) (q_it (Or.inl rfl) ?_))
    exact ⟨0, I, p, va, _, cl, le, co, rfl, FRT_r, rfl, rfl⟩
end CL0

