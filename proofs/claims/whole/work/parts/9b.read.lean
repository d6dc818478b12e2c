/-! texts: all clauses -/
theorem KC_m {T : Nat} {I J : Nat → Nat → Int} {co co' : Nat → Int} {le le' u u' m : Nat} {c : CLM} (h : KC T I co le u m c) (hf : FRT T (m + 1) I J) (hu : u ≤ u') (hc : ∀ x, x < u → co' x = co x) (hl : ∀ k, le.testBit k = true → le'.testBit k = true) : KC T J co' le' u' m c := by
  have e : ∀ a, T + 2 ≤ a → a ≤ T + 8 → J a m = I a m := fun a _ _ => hf a m (by omega) (by omega)
  obtain ⟨h1, h2, h3, h4⟩ := h
  refine ⟨(e _ (by omega) (by omega)).trans h1, fun q => (e _ (by omega) (by omega)).trans (h2 q), fun q => ⟨(e _ (by omega) (by omega)).trans (h3 q).1, (e _ (by omega) (by omega)).trans (h3 q).2⟩, fun q => ?_⟩
  obtain ⟨g1, g2, a, b, g3, g4, g5, g6⟩ := h4 q
  exact ⟨(e _ (by omega) (by omega)).trans g1, (e _ (by omega) (by omega)).trans g2, a, b, (e _ (by omega) (by omega)).trans g3, (e _ (by omega) (by omega)).trans g4, by omega, Cd_m g6 hl 14 (Nat.le_refl _) (fun x _ hx => hc x (by omega))⟩
def KCL (T : Nat) (I : Nat → Nat → Int) (co : Nat → Int) (le u : Nat) : Nat → List CLM → Prop
  | _, [] => True
  | m, c :: l => KC T I co le u m c ∧ KCL T I co le u (m + 1) l
/-- what a clause's numbers are -/
def GOOD (n : Nat) (c : CLM) : Prop := isL c.1 ∧ (c.1 = 102 ∨ c.1 = 119 → 0 ≤ c.2.1 ∧ c.2.1 ≤ 99999) ∧ (c.1 = 120 → (0 ≤ c.2.1 ∧ c.2.1 ≤ 29) ∧ 0 ≤ c.2.2.1 ∧ c.2.2.1 ≤ 11) ∧ (isC c.1 → (2 ≤ c.2.2.2.1 ∧ c.2.2.2.1 ≤ c.2.2.2.2.1 ∧ c.2.2.2.2.1 + 1 ≤ n) ∧ BoolF c.2.2.2.2.2)
theorem CLAUSE_ok {q : Nat → Int} {n : Nat} (h : OQ q n) (i : Nat) : (∀ e, CLAUSE q i = .inl e → e < 0) ∧ ∀ j c, CLAUSE q i = .inr (j, c) → (i < j ∧ j ≤ n) ∧ GOOD n c := by
  have nu : ∀ u i e, NUMU q u i = .inl e → e < 0 := by
    intro u i e he
    unfold NUMU at he
    have hn := NUM_ok h i
    split at he
    · cases he
      exact hn.1 _ ‹_›
    · split at he
      · cases he
      · cases he
        exact fau_neg (by decide) _
  unfold CLAUSE
  split
  · unfold CLX
    split
    · exact ⟨fun e he => (by cases he; exact nu _ _ _ ‹_›), fun j c he => by cases he⟩
    · rename_i j v hn
      have o1 := NUMU_ok h hn
      split
      · split
        · exact ⟨fun e he => (by cases he; exact nu _ _ _ ‹_›), fun j c he => by cases he⟩
        · rename_i j2 w hn2
          have o2 := NUMU_ok h hn2
          refine ⟨fun e he => (by cases he), fun j c he => ?_⟩
          cases he
          exact ⟨by omega, (show isL (120 : Int) by decide), fun q => by rcases q with q | q <;> (change (120 : Int) = _ at q; omega), fun _ => ⟨⟨o1.2.2.1, o1.2.2.2⟩, o2.2.2.1, o2.2.2.2⟩, fun q => by rcases q with q | q | q <;> (change (120 : Int) = _ at q; omega)⟩
      · exact ⟨fun e he => (by cases he; exact fau_neg (by decide) _), fun j c he => by cases he⟩
  · split
    · unfold CLF
      split
      · exact ⟨fun e he => (by cases he; exact (NUM_ok h _).1 _ ‹_›), fun j c he => by cases he⟩
      · rename_i j v hn
        have o1 := (NUM_ok h _).2 _ _ hn
        have o2 := NUM_v hn
        refine ⟨fun e he => (by cases he), fun j c he => ?_⟩
        cases he
        exact ⟨by omega, (show isL (102 : Int) by decide), fun _ => o2, (fun q => by change (102 : Int) = 120 at q; omega), fun q => by rcases q with q | q | q <;> (change (102 : Int) = _ at q; omega)⟩
    · split
      · rename_i c1 c2 c3
        unfold CLQ
        split
        · have hc := COND_ok (q := q) (PIECE_ok h 5) (i + 2)
          have hb := COND_b (q := q) (PIECE_b (q := q) 5) (i + 2)
          split
          · exact ⟨fun e he => (by cases he; exact hc.1 _ ‹_›), fun j c he => by cases he⟩
          · rename_i j f hn
            have o1 := hc.2 _ _ hn
            have o2 := hb _ _ hn
            split
            · rename_i c5
              have hl := OQ_lt h (by decide) c5
              split
              · rename_i c4
                unfold CLW
                split
                · exact ⟨fun e he => (by cases he; exact (NUM_ok h _).1 _ ‹_›), fun j c he => by cases he⟩
                · rename_i j2 v hn2
                  have o3 := (NUM_ok h _).2 _ _ hn2
                  have o4 := NUM_v hn2
                  refine ⟨fun e he => (by cases he), fun j c he => ?_⟩
                  cases he
                  exact ⟨by omega, Or.inl c3, fun _ => o4, fun q => absurd q c1, fun _ => ⟨⟨by show 2 ≤ i + 2; omega, by show i + 2 ≤ j; omega, by show j + 1 ≤ n; omega⟩, o2⟩⟩
              · rename_i c4
                refine ⟨fun e he => (by cases he), fun j c he => ?_⟩
                cases he
                exact ⟨by omega, Or.inl c3, fun q => by rcases q with q | q; exact absurd q c2; exact absurd q c4, fun q => absurd q c1, fun _ => ⟨⟨by show 2 ≤ i + 2; omega, by dsimp only; omega, by dsimp only; omega⟩, o2⟩⟩
            · exact ⟨fun e he => (by cases he; exact fau_neg (by decide) _), fun j c he => by cases he⟩
        · exact ⟨fun e he => (by cases he; exact fau_neg (by decide) _), fun j c he => by cases he⟩
      · exact ⟨fun e he => (by cases he; exact fau_neg (by decide) _), fun j c he => by cases he⟩
theorem CLAUSE_b {q : Nat → Int} {i j : Nat} {c : CLM} (h : CLAUSE q i = .inr (j, c)) (hc : isC c.1) : q (c.2.2.2.1 - 1) = 40 ∧ q c.2.2.2.2.1 = 41 := by
  unfold CLAUSE at h
  split at h
  · unfold CLX at h
    split at h
    · cases h
    · split at h
      · split at h
        · cases h
        · cases h
          exact absurd (show isC (120 : Int) from hc) (by decide)
      · cases h
  · split at h
    · unfold CLF at h
      split at h
      · cases h
      · cases h
        exact absurd (show isC (102 : Int) from hc) (by decide)
    · split at h
      · unfold CLQ at h
        split at h
        · rename_i q1
          split at h
          · cases h
          · split at h
            · rename_i q2
              split at h
              · unfold CLW at h
                split at h
                · cases h
                · cases h
                  exact ⟨q1, q2⟩
              · cases h
                exact ⟨q1, q2⟩
            · cases h
        · cases h
      · cases h
theorem RDL_b {q : Nat → Int} {n : Nat} : ∀ k i l, RDL q n k i = .inr l → ∀ c, c ∈ l → isC c.1 → q (c.2.2.2.1 - 1) = 40 ∧ q c.2.2.2.2.1 = 41 := by
  intro k
  induction k with
  | zero =>
    intro i l he
    unfold RDL at he
    cases he
  | succ k ih =>
    intro i l he
    unfold RDL at he
    split at he
    · cases he
    · rename_i j c hn
      split at he
      · cases he
        exact fun c hc q => by
          rcases List.mem_cons.1 hc with rfl | hc
          · exact CLAUSE_b hn q
          · cases hc
      · split at he
        · split at he
          · cases he
          · rename_i l' hl
            cases he
            exact fun c hc q => by
              rcases List.mem_cons.1 hc with rfl | hc
              · exact CLAUSE_b hn q
              · exact ih _ _ hl c hc q
        · cases he
theorem RDL_ok {q : Nat → Int} {n : Nat} (h : OQ q n) : ∀ k i, (∀ e, RDL q n k i = .inl e → e < 0) ∧ ∀ l, RDL q n k i = .inr l → l.length ≤ k ∧ 1 ≤ l.length ∧ ∀ c, c ∈ l → GOOD n c := by
  intro k
  induction k with
  | zero =>
    intro i
    unfold RDL
    exact ⟨fun e he => (by cases he; split <;> exact fau_neg (by decide) _), fun l he => by cases he⟩
  | succ k ih =>
    intro i
    unfold RDL
    have hc := CLAUSE_ok h i
    split
    · exact ⟨fun e he => (by cases he; exact hc.1 _ ‹_›), fun j he => by cases he⟩
    · rename_i j c hn
      have o1 := hc.2 _ _ hn
      split
      · refine ⟨fun e he => (by cases he), fun l he => ?_⟩
        cases he
        exact ⟨by show 1 ≤ k + 1; omega, Nat.le_refl _, fun c hc => by rcases List.mem_cons.1 hc with rfl | hc; exact o1.2; cases hc⟩
      · split
        · split
          · exact ⟨fun e he => (by cases he; exact (ih _).1 _ ‹_›), fun j he => by cases he⟩
          · rename_i l hl
            have o2 := (ih _).2 _ hl
            refine ⟨fun e he => (by cases he), fun l he => ?_⟩
            cases he
            exact ⟨by show l.length + 1 ≤ k + 1; omega, by show 1 ≤ l.length + 1; omega, fun c hc => by rcases List.mem_cons.1 hc with rfl | hc; exact o1.2; exact o2.2.2 c hc⟩
        · exact ⟨fun e he => (by cases he; exact fau_neg (by decide) _), fun j he => by cases he⟩
def RRD (T : Nat) (I : Nat → Nat → Int) (sp rt : Nat) (tt : Nat → Nat) (z : Zs) (m a : Nat) (le : Nat) (co : Nat → Int) (r : Int ⊕ List CLM) (res : Option Res) : Prop :=
  ∃ (J : Nat → Nat → Int) (p' : Nat) (va' fc' : Int) (cl' le' : Nat) (co' : Nat → Int), res = some (some (0, fc'), (HC T J p' va' fc' cl' le' co', RF sp rt tt z.1, z)) ∧ FRT T m I J ∧ match r with
    | .inl e => fc' = e
    | .inr l => fc' = 0 ∧ (∀ x, x < a → co' x = co x) ∧ le' < 4096 ∧ (∀ k, le.testBit k = true → le'.testBit k = true) ∧ KCL T J co' le' 160 m l ∧ J T 5 = (m : Int) + l.length
section RD2
variable {I : Nat → Nat → Int} {sp rt : Nat} {tt : Nat → Nat} {z : Zs} {T n : Nat}
theorem L_27 {E : Nat} (hE : 29 ≤ E) : ∀ (k m p cl : Nat) (va : Int) (le : Nat) (co : Nat → Int) (I : Nat → Nat → Int), CX I sp rt tt z T n → k + m = 12 → p ≤ n → cl ≤ p → le < 4096 → RRD T I sp rt tt z m cl le co (RDL (qc (I (T + 1)) n) n k p) (Run PG (Call PG (E + 1)) 27 17 [(2, 22), (2, ((T : Nat) : Int)), (0, (m : Int))] [] (HC T I p va 0 cl le co, RF sp rt tt z.1, z) (0, 0)) := by
  obtain ⟨d, rfl⟩ : ∃ d, E = d + 5 := ⟨E - 5, by omega⟩
  intro k
  induction k with
  | zero =>
    intro m p cl va le co I h hk hp hcl hle
    obtain ⟨v, J, p', va', fc', cl', le', co', e, f, oc⟩ := C_28 (va := va) (fc := 0) (co := co) h hE hp (m := m) (by omega) hle hcl
    rw [if_pos (by omega)] at oc
    obtain ⟨rfl, rfl⟩ := oc
    refine q_tr (T_27_17 ..) (q_ct (by omega) (q_bd e (q_tr (T_27_28 ..) (q_ct rfl ?_))))
    rw [hc_3]
    exact ⟨J, p', va', _, cl', le', co', rfl, f, rfl⟩
  | succ k ih =>
    intro m p cl va le co I h hk hp hcl hle
    have hq := qc_OQ (I (T + 1)) n
    have hn := h.2.2.2
    obtain ⟨v, J, p', va', fc', cl', le', co', e, f, oc⟩ := C_28 (va := va) (fc := 0) (co := co) h hE hp (m := m) (by omega) hle hcl
    rw [if_neg (by omega)] at oc
    refine q_tr (T_27_17 ..) (q_ct (by omega) (q_bd e (q_tr (T_27_28 ..) ?_)))
    unfold RDL
    cases hr : CLAUSE (qc (I (T + 1)) n) p with
    | inl e0 =>
      rw [hr] at oc
      obtain ⟨rfl, rfl⟩ := oc
      refine q_ct rfl ?_
      rw [hc_3]
      exact ⟨J, p', va', _, cl', le', co', rfl, f, rfl⟩
    | inr w =>
      obtain ⟨j, c⟩ := w
      rw [hr] at oc
      obtain ⟨rfl, rfl, rfl, o1, o2, o3, o4, o5, o6⟩ := oc
      have h1 := CX_f h f
      have b1 := FRT_B f
      have s29 := S_29 (d := d + 5) (p := p') (va := va') (fc := 0) (cl := cl') (le := le') (co := co') h1
      rw [b1] at s29
      refine q_cf (by decide) (q_bd s29 (q_tr (T_27_35 ..) ?_))
      dsimp only
      by_cases c1 : n ≤ p'
      · rw [if_pos c1]
        refine q_ct (hq.1 _ c1) ?_
        rw [hc_3]
        refine ⟨J, p', va', 0, cl', le', co', rfl, f, rfl, o2, o3, o4, ⟨KC_m o5 FRT_r (by omega) (fun _ _ => rfl) (fun _ q => q), trivial⟩, o6⟩
      · rw [if_neg c1]
        have hl := hq.2 p' (by omega)
        have s35 := S_35 (d := d + 4) (va := va') (fc := 0) (cl := cl') (le := le') (co := co') (c := 59) h1 (p := p') (by omega)
        rw [b1] at s35
        refine q_cf (by omega) ?_
        by_cases c2 : qc (I (T + 1)) n p' = 59
        · rw [if_pos c2] at s35 ⊢
          refine q_bd s35 (q_tr (T_27_45 ..) (q_cf (by decide) ?_))
          rw [w_n (by omega)]
          obtain ⟨K, p2, va2, fc2, cl2, le2, co2, e2, f2, oc2⟩ := ih (m + 1) (p' + 1) cl' va' le' co' J h1 (by omega) (by omega) (by omega) o3
          rw [b1] at oc2
          refine q_tr e2 ?_
          have f3 : FRT T m I K := FRT_t f (FRT_le f2 (by omega))
          cases hr2 : RDL (qc (I (T + 1)) n) n k (p' + 1) with
          | inl e0 =>
            rw [hr2] at oc2
            exact ⟨K, p2, va2, fc2, cl2, le2, co2, rfl, f3, oc2⟩
          | inr l =>
            rw [hr2] at oc2
            obtain ⟨u1, u2, u3, u4, u5, u6⟩ := oc2
            refine ⟨K, p2, va2, fc2, cl2, le2, co2, rfl, f3, u1, fun x hx => (u2 x (by omega)).trans (o2 x hx), u3, fun k hk => u4 k (o4 k hk), ⟨KC_m o5 f2 (by omega) u2 u4, u5⟩, ?_⟩
            rw [u6]
            show _ = (m : Int) + ((l.length + 1 : Nat) : Int)
            omega
        · rw [if_neg c2] at s35 ⊢
          refine q_bd s35 (q_tr (T_27_45 ..) (q_ct rfl ?_))
          rw [hc_3]
          exact ⟨J, p', va', _, cl', le', co', rfl, f, rfl⟩
theorem RF_rt {n : Nat} : up2 (RF sp rt tt n) 22 0 ((T : Int) + 1) = RF sp (T + 1) tt n := by
  funext a j
  unfold up2 RF
  by_cases c : a = 22 ∧ j = 0
  · rw [if_pos c, if_pos (by omega), if_neg (by omega), if_pos c]
    omega
  · rw [if_neg c]
    by_cases c1 : a < 163
    · rw [if_pos c1, if_pos c1]
      by_cases c2 : a = 9 ∧ j = 3
      · rw [if_pos c2, if_pos c2]
      · rw [if_neg c2, if_neg c2, if_neg c, if_neg c]
    · rw [if_neg c1, if_neg c1]
theorem HC_self {p : Nat} {va : Int} (hT : ¬ T = 22) (h9 : ¬ T + 9 = 22) (h15 : I T 15 = 0) (h16 : I T 16 = 0) : up2 (up2 I 22 1 0) 22 3 0 = HC T I 0 (I 22 2) 0 0 0 (I (T + 9)) := by
  funext a j
  unfold up2 HC
  by_cases c3 : a = 22 ∧ j = 3
  · rw [if_pos c3, if_neg (by omega), if_neg (by omega), if_pos c3]
  · rw [if_neg c3]
    by_cases c1 : a = 22 ∧ j = 1
    · rw [if_pos c1, if_pos c1]
      rfl
    · rw [if_neg c1, if_neg c1]
      by_cases c2 : a = 22 ∧ j = 2
      · rw [if_pos c2, c2.1, c2.2]
      · rw [if_neg c2, if_neg c3]
        by_cases c4 : a = T ∧ j = 15
        · rw [if_pos c4, c4.1, c4.2, h15]
          rfl
        · rw [if_neg c4]
          by_cases c5 : a = T ∧ j = 16
          · rw [if_pos c5, c5.1, c5.2, h16]
          · rw [if_neg c5]
            by_cases c6 : a = T + 9
            · rw [if_pos c6, c6]
            · rw [if_neg c6]
/-- a text is read -/
theorem S_27 {E : Nat} (hE : 29 ≤ E) (h : CX I sp (T + 1) tt z T n) (h15 : I T 15 = 0) (h16 : I T 16 = 0) : RRD T I sp (T + 1) tt z 0 0 0 (I (T + 9)) (RDL (qc (I (T + 1)) n) n 12 0) (Call PG (E + 2) 27 [(2, 22), (2, ((T : Nat) : Int))] (I, RF sp rt tt z.1, z)) := by
  have hT := h.2.1.1
  refine q_tr (K_27 ..) (q_tr (T_27_0 ..) ?_)
  rw [RF_rt]
  refine q_tr (T_27_5 ..) ?_
  rw [HC_self hT.1 hT.2.2.2.2.2.2.2.2.2 h15 h16 (p := 0) (va := 0)]
  exact L_27 hE 12 0 0 0 _ 0 _ I h (by omega) (by omega) (by omega) (by decide)
/-- a text's cell is made ready -/
theorem S_26 {d : Nat} {I : Nat → Nat → Int} (hr : TX T (RF sp rt tt z.1)) (hn : n ≤ 160) : Call PG (d + 1) 26 [(2, ((T : Nat) : Int)), (2, 1), (0, (n : Int))] (I, RF sp rt tt z.1, z) = some (none, (up2 (up2 (up2 (cp2 (up2 I T 3 (n : Int)) 1 0 (T + 1) 0 n) T 5 0) T 15 0) T 16 0, RF sp rt tt z.1, z)) := by
  obtain ⟨hT, hL, hB, _⟩ := hr
  have l1 : (LAY T).1 = 3 := by rw [hL]
  have l2 : (LAY (T + 1)).1 = 21 ∧ (LAY (T + 1)).2 = 160 := by rw [hB.2]; exact ⟨rfl, rfl⟩
  have l3 : (LAY 1).1 = 21 ∧ (LAY 1).2 = 160 := ⟨rfl, rfl⟩
  have r4 := rv_n hB.1
  have e1 : (if (if (160 : Nat) < 160 then (160 : Int) else 160) < (n : Int) then (if (160 : Nat) < 160 then (160 : Int) else 160) else (n : Int)) = (n : Int) := by
    rw [if_neg (show ¬ (160 : Nat) < 160 by decide), if_neg (by omega)]
  refine (K_26 ..).trans ?_
  refine (T_26_0 ..).trans ?_
  refine ite_t l1 (ite_t l1 (nn_t r4 (ite_t l1 ?_)))
  rw [e1, up2_eq, show ((n : Int)).toNat = n by omega]
  refine ite_t ⟨Or.inr l3.1, by rw [l2.1, l3.1], by decide, by decide, by omega, by omega, by omega, by decide⟩ ?_
  refine (T_26_30 ..).trans ?_
  exact ite_t l1 (ite_t l1 (ite_t l1 rfl))
end RD2

