/-! the law: one turn of its loop, from what each call does -/
section LT2
theorem swq {P : Nat → Prop} {k : Int} {t : Nat} {ks : List Int} {ts : List Nat} {d : Nat} {x : Int} (h : x = k → P t) (r : P (swt ks ts d x)) : P (swt (k :: ks) (t :: ts) d x) := by
  show P (if x = k then t else swt ks ts d x)
  split
  · exact h ‹_›
  · exact r
theorem GN0_r {I J : Nat → Nat → Int} (h : rs J = rs I) (H : GN0 I) : GN0 J := by
  have h1 : GN0 (rs I) := H
  rw [← h] at h1
  exact h1
theorem GK_r {I J : Nat → Nat → Int} (h : rs J = rs I) (H : GK I) : GK J := by
  have h1 : GK (rs I) := H
  rw [← h] at h1
  exact h1
theorem MX_r {I J : Nat → Nat → Int} (h : rs J = rs I) : mkI MX J = mkI MX I := mkI_eq (fun a j hm => by
  have q : RS a j = true := by
    have := of_decide_eq_true hm
    unfold RS
    by_cases c1 : a = 82
    · rw [if_pos c1]
      have e : j = 5 ∨ j = 51 := by omega
      rcases e with e | e <;> rw [e] <;> rfl
    · rw [if_neg c1, if_neg (by omega)]
      by_cases c2 : a < 163
      · rw [if_pos c2]
        simp only [Bool.or_eq_true, Bool.and_eq_true, decide_eq_true_eq]
        omega
      · rw [if_neg c2]
  have e := congrFun (congrFun h a) j
  unfold rs at e
  rwa [if_pos q, if_pos q] at e)
/-- a law's call of the class and the reference: both answer alike, and all holds behind -/
def OpL (X : (Nat → Nat → Int) → Nat → (Nat → Nat) → Nat → Prop) (t mc mm : Nat) (as : List AV) (I : Nat → Nat → Int) (sp rt : Nat) (tt : Nat → Nat) (z : Zs) : Prop :=
  ∃ (v : Int) (I1 I2 : Nat → Nat → Int), Call PG 300 mc ((2, 0) :: as) (I, RF sp rt tt z.1, z) = some (some (t, v), (I1, RF sp rt tt z.1, z)) ∧ Call PG 300 mm ((2, 82) :: as) (I1, RF sp rt tt z.1, z) = some (some (t, v), (I2, RF sp rt tt z.1, z)) ∧ (InvS I2 ∧ GN0 I2 ∧ GK I2) ∧ X I2 sp tt z.1
/-- the same of text, which makes a new one -/
def OpT (X : (Nat → Nat → Int) → Nat → (Nat → Nat) → Nat → Prop) (as : List AV) (I : Nat → Nat → Int) (sp rt : Nat) (tt : Nat → Nat) (z : Zs) : Prop :=
  ∃ (v : Int) (I1 I2 : Nat → Nat → Int) (sp1 rt1 n1 : Nat) (tt1 : Nat → Nat), Call PG 300 23 ((2, 0) :: as) (I, RF sp rt tt z.1, z) = some (some (0, v), (I1, RF sp1 rt1 tt1 n1, (n1, z.2))) ∧ Call PG 300 216 ((2, 82) :: as) (I1, RF sp1 rt1 tt1 n1, (n1, z.2)) = some (some (0, v), (I2, RF sp1 rt1 tt1 n1, (n1, z.2))) ∧ (InvS I2 ∧ GN0 I2 ∧ GK I2) ∧ X I2 sp1 tt1 n1
/-- what the texts' predicate must be -/
def XOK (X : (Nat → Nat → Int) → Nat → (Nat → Nat) → Nat → Prop) : Prop :=
  (∀ {I J : Nat → Nat → Int} {sp : Nat} {tt : Nat → Nat} {n : Nat}, mkI MX J = mkI MX I → X I sp tt n → X J sp tt n) ∧ ∀ {I : Nat → Nat → Int} {sp : Nat} {tt : Nat → Nat} {n : Nat}, X I sp tt n → I 82 5 = I 9 1
/-- all the calls of laws, where I holds what must be -/
def XOPS (X : (Nat → Nat → Int) → Nat → (Nat → Nat) → Nat → Prop) (I : Nat → Nat → Int) (sp rt : Nat) (tt : Nat → Nat) (z : Zs) : Prop :=
  (∀ a b c e : Int, OpT X [(0, a), (0, b), (0, c), (0, e)] I sp rt tt z) ∧ (∀ a b : Int, OpL X 0 45 240 [(0, a), (0, b)] I sp rt tt z) ∧ (∀ a b c : Int, OpL X 0 54 246 [(0, a), (0, b), (0, c)] I sp rt tt z) ∧ (∀ a : Int, OpL X 0 83 276 [(0, a)] I sp rt tt z) ∧ (∀ a b c : Int, OpL X 0 87 278 [(0, a), (0, b), (0, c)] I sp rt tt z) ∧ (∀ a : Int, OpL X 1 90 279 [(0, a)] I sp rt tt z) ∧ (∀ a : Int, OpL X 0 93 281 [(0, a)] I sp rt tt z) ∧ (∀ a b : Int, OpL X 0 174 323 [(0, a), (0, b)] I sp rt tt z) ∧ (∀ a : Int, OpL X 0 183 328 [(0, a)] I sp rt tt z) ∧ (∀ a b c : Int, OpL X 0 185 330 [(0, a), (0, b), (0, c)] I sp rt tt z)
theorem OpL_R {X mc mm as} {I : Nat → Nat → Int} {sp rt : Nat} {tt : Nat → Nat} {z : Zs} (hX : XOK X) (hh : InvS I ∧ GN0 I ∧ GK I) (hx : X I sp tt z.1) (h : OpR mc mm as I sp rt tt z) : OpL X 0 mc mm as I sp rt tt z := by
  obtain ⟨v, I1, I2, h1, h2, h3, h4⟩ := h
  exact ⟨v, I1, I2, h1, h2, ⟨h3, GN0_r h4 hh.2.1, GK_r h4 hh.2.2⟩, hX.1 (MX_r h4) hx⟩
theorem OpL_N {X mc mm as} {I : Nat → Nat → Int} {sp rt : Nat} {tt : Nat → Nat} {z : Zs} (hX : XOK X) (hx : X I sp tt z.1) (h : OpN mc mm as I sp rt tt z) : OpL X 0 mc mm as I sp rt tt z := by
  obtain ⟨v, I1, I2, h1, h2, h3, h4, h5⟩ := h
  exact ⟨v, I1, I2, h1, h2, ⟨h3, h4.1, h4.2⟩, hX.1 h5 hx⟩
/-- behind one turn -/
def NXT (X : (Nat → Nat → Int) → Nat → (Nat → Nat) → Nat → Prop) (I : Nat → Nat → Int) (sp rt : Nat) (tt : Nat → Nat) (z : Zs) (g1 g2 : Nat) (i : Int) (pc : Nat) : Prop :=
  ∃ (I2 : Nat → Nat → Int) (sp2 rt2 n2 g3 g4 : Nat) (tt2 : Nat → Nat), Run PG (Call PG 300) 345 pc [(4, 0), (2, 0), (2, 82), (0, i)] [] (I, RF sp rt tt z.1, z) (g1, g2) = Run PG (Call PG 300) 345 18 [(4, 0), (2, 0), (2, 82), (0, i + 8)] [] (I2, RF sp2 rt2 tt2 n2, (n2, z.2)) (g3, g4) ∧ ((InvS I2 ∧ GN0 I2 ∧ GK I2) ∧ X I2 sp2 tt2 n2) ∧ g3 ≤ g1 + 10 ∧ g4 ≤ g2 + 421
section LT3
variable {X : (Nat → Nat → Int) → Nat → (Nat → Nat) → Nat → Prop} {I : Nat → Nat → Int} {sp rt : Nat} {tt : Nat → Nat} {z : Zs} {g1 g2 : Nat} {i : Int}
theorem NX0 (hi : 0 ≤ i ∧ i + 8 ≤ (z.2.1 : Int) ∧ (z.2.1 : Int) ≤ 4096) : Run PG (Call PG 300) 345 2243 [(4, 0), (2, 0), (2, 82), (0, i)] [] (I, RF sp rt tt z.1, z) (g1, g2) = Run PG (Call PG 300) 345 18 [(4, 0), (2, 0), (2, 82), (0, i + 8)] [] (I, RF sp rt tt z.1, z) (g1, g2) := by
  refine (T_345_2243 ..).trans ?_
  rw [w32_of (by omega) (by omega)]
theorem NXL {t mc mm as pc} (hi : 0 ≤ i ∧ i + 8 ≤ (z.2.1 : Int) ∧ (z.2.1 : Int) ≤ 4096) (h : OpL X t mc mm as I sp rt tt z) (hs : ∀ {v I1 I2}, Call PG 300 mc ((2, 0) :: as) (I, RF sp rt tt z.1, z) = some (some (t, v), (I1, RF sp rt tt z.1, z)) → Call PG 300 mm ((2, 82) :: as) (I1, RF sp rt tt z.1, z) = some (some (t, v), (I2, RF sp rt tt z.1, z)) → Run PG (Call PG 300) 345 pc [(4, 0), (2, 0), (2, 82), (0, i)] [] (I, RF sp rt tt z.1, z) (g1, g2) = Run PG (Call PG 300) 345 2243 [(4, 0), (2, 0), (2, 82), (0, i)] [] (I2, RF sp rt tt z.1, z) (g1, g2)) : NXT X I sp rt tt z g1 g2 i pc := by
  obtain ⟨v, I1, I2, h1, h2, h3, h4⟩ := h
  exact ⟨I2, sp, rt, z.1, g1, g2, tt, (hs h1 h2).trans (NX0 hi), ⟨h3, h4⟩, by omega, by omega⟩
theorem NXTT {as pc} (hi : 0 ≤ i ∧ i + 8 ≤ (z.2.1 : Int) ∧ (z.2.1 : Int) ≤ 4096) (h : OpT X as I sp rt tt z) (hs : ∀ {v I1 I2 sp1 rt1 n1 tt1}, Call PG 300 23 ((2, 0) :: as) (I, RF sp rt tt z.1, z) = some (some (0, v), (I1, RF sp1 rt1 tt1 n1, (n1, z.2))) → Call PG 300 216 ((2, 82) :: as) (I1, RF sp1 rt1 tt1 n1, (n1, z.2)) = some (some (0, v), (I2, RF sp1 rt1 tt1 n1, (n1, z.2))) → Run PG (Call PG 300) 345 pc [(4, 0), (2, 0), (2, 82), (0, i)] [] (I, RF sp rt tt z.1, z) (g1, g2) = Run PG (Call PG 300) 345 2243 [(4, 0), (2, 0), (2, 82), (0, i)] [] (I2, RF sp1 rt1 tt1 n1, (n1, z.2)) (g1 + 10, g2 + 421)) : NXT X I sp rt tt z g1 g2 i pc := by
  obtain ⟨v, I1, I2, sp1, rt1, n1, tt1, h1, h2, h3, h4⟩ := h
  exact ⟨I2, sp1, rt1, n1, g1 + 10, g2 + 421, tt1, (hs h1 h2).trans (NX0 (z := (n1, z.2)) hi), ⟨h3, h4⟩, by omega, by omega⟩
theorem NX_0 (hX : XOK X) (hh : InvS I ∧ GN0 I ∧ GK I) (hx : X I sp tt z.1) (hi : 0 ≤ i ∧ i + 8 ≤ (z.2.1 : Int) ∧ (z.2.1 : Int) ≤ 4096) (hg : g1 + 10 ≤ 600000 ∧ g2 + 421 ≤ 7302249) : NXT X I sp rt tt z g1 g2 i 272 := NXL hi (OpL_R hX hh hx (o_now (z.2.2 (i + 1).toNat) hh.1)) (fun h1 h2 => LS_0 hi (by omega) h1 h2)
theorem NX_1 (hX : XOK X) (hh : InvS I ∧ GN0 I ∧ GK I) (hx : X I sp tt z.1) (hi : 0 ≤ i ∧ i + 8 ≤ (z.2.1 : Int) ∧ (z.2.1 : Int) ≤ 4096) (hg : g1 + 10 ≤ 600000 ∧ g2 + 421 ≤ 7302249) : NXT X I sp rt tt z g1 g2 i 295 := NXL hi (OpL_N hX hx (o_pit (z.2.2 (i + 1).toNat) (z.2.2 (i + 2).toNat) (z.2.2 (i + 3).toNat) (z.2.2 (i + 4).toNat) hh.1 hh.2.1 hh.2.2)) (fun h1 h2 => LS_1 hi (by omega) h1 h2)
theorem NX_2 (hX : XOK X) (hh : InvS I ∧ GN0 I ∧ GK I) (hx : X I sp tt z.1) (hi : 0 ≤ i ∧ i + 8 ≤ (z.2.1 : Int) ∧ (z.2.1 : Int) ≤ 4096) (hg : g1 + 10 ≤ 600000 ∧ g2 + 421 ≤ 7302249) : NXT X I sp rt tt z g1 g2 i 348 := NXL hi (OpL_R hX hh hx (o_told (z.2.2 (i + 1).toNat) (z.2.2 (i + 2).toNat) (z.2.2 (i + 3).toNat) hh.1)) (fun h1 h2 => LS_2 hi (by omega) h1 h2)
theorem NX_3 (hX : XOK X) (hh : InvS I ∧ GN0 I ∧ GK I) (hx : X I sp tt z.1) (hi : 0 ≤ i ∧ i + 8 ≤ (z.2.1 : Int) ∧ (z.2.1 : Int) ≤ 4096) (hg : g1 + 10 ≤ 600000 ∧ g2 + 421 ≤ 7302249) : NXT X I sp rt tt z g1 g2 i 391 := NXL hi (OpL_R hX hh hx (o_hand (z.2.2 (i + 1).toNat) (z.2.2 (i + 2).toNat) hh.1)) (fun h1 h2 => LS_3 hi (by omega) h1 h2)
theorem NX_4 (hX : XOK X) (hh : InvS I ∧ GN0 I ∧ GK I) (hx : X I sp tt z.1) (hi : 0 ≤ i ∧ i + 8 ≤ (z.2.1 : Int) ∧ (z.2.1 : Int) ≤ 4096) (hg : g1 + 10 ≤ 600000 ∧ g2 + 421 ≤ 7302249) : NXT X I sp rt tt z g1 g2 i 424 := NXL hi (OpL_R hX hh hx (o_feed (z.2.2 (i + 1).toNat) (z.2.2 (i + 2).toNat) (z.2.2 (i + 3).toNat) (z.2.2 (i + 4).toNat) (z.2.2 (i + 5).toNat) hh.1)) (fun h1 h2 => LS_4 hi (by omega) h1 h2)
theorem NX_5 (hX : XOK X) (hh : InvS I ∧ GN0 I ∧ GK I) (hx : X I sp tt z.1) (hi : 0 ≤ i ∧ i + 8 ≤ (z.2.1 : Int) ∧ (z.2.1 : Int) ≤ 4096) (hg : g1 + 10 ≤ 600000 ∧ g2 + 421 ≤ 7302249) (ho : XOPS X I sp rt tt z) : NXT X I sp rt tt z g1 g2 i 487 := NXTT hi (ho.1 (z.2.2 (i + 1).toNat) (z.2.2 (i + 2).toNat) (z.2.2 (i + 3).toNat) (z.2.2 (i + 4).toNat)) (fun h1 h2 => LS_5 hi hg h1 h2)
theorem NX_6 (hX : XOK X) (hh : InvS I ∧ GN0 I ∧ GK I) (hx : X I sp tt z.1) (hi : 0 ≤ i ∧ i + 8 ≤ (z.2.1 : Int) ∧ (z.2.1 : Int) ≤ 4096) (hg : g1 + 10 ≤ 600000 ∧ g2 + 421 ≤ 7302249) (ho : XOPS X I sp rt tt z) : NXT X I sp rt tt z g1 g2 i 540 := NXL hi (ho.2.1 (z.2.2 (i + 1).toNat) (z.2.2 (i + 2).toNat)) (fun h1 h2 => LS_6 hi (by omega) h1 h2)
theorem NX_7 (hX : XOK X) (hh : InvS I ∧ GN0 I ∧ GK I) (hx : X I sp tt z.1) (hi : 0 ≤ i ∧ i + 8 ≤ (z.2.1 : Int) ∧ (z.2.1 : Int) ≤ 4096) (hg : g1 + 10 ≤ 600000 ∧ g2 + 421 ≤ 7302249) (ho : XOPS X I sp rt tt z) : NXT X I sp rt tt z g1 g2 i 573 := NXL hi (ho.2.2.1 (z.2.2 (i + 1).toNat) (z.2.2 (i + 2).toNat) (z.2.2 (i + 3).toNat)) (fun h1 h2 => LS_7 hi (by omega) h1 h2)
theorem NX_8 (hX : XOK X) (hh : InvS I ∧ GN0 I ∧ GK I) (hx : X I sp tt z.1) (hi : 0 ≤ i ∧ i + 8 ≤ (z.2.1 : Int) ∧ (z.2.1 : Int) ≤ 4096) (hg : g1 + 10 ≤ 600000 ∧ g2 + 421 ≤ 7302249) (ho : XOPS X I sp rt tt z) : NXT X I sp rt tt z g1 g2 i 616 := NXL hi (ho.2.2.2.1 (z.2.2 (i + 1).toNat)) (fun h1 h2 => LS_8 hi (by omega) h1 h2)
theorem NX_9 (hX : XOK X) (hh : InvS I ∧ GN0 I ∧ GK I) (hx : X I sp tt z.1) (hi : 0 ≤ i ∧ i + 8 ≤ (z.2.1 : Int) ∧ (z.2.1 : Int) ≤ 4096) (hg : g1 + 10 ≤ 600000 ∧ g2 + 421 ≤ 7302249) (ho : XOPS X I sp rt tt z) : NXT X I sp rt tt z g1 g2 i 639 := NXL hi (ho.2.2.2.2.1 (z.2.2 (i + 1).toNat) (z.2.2 (i + 2).toNat) (z.2.2 (i + 3).toNat)) (fun h1 h2 => LS_9 hi (by omega) h1 h2)
theorem NX_10 (hX : XOK X) (hh : InvS I ∧ GN0 I ∧ GK I) (hx : X I sp tt z.1) (hi : 0 ≤ i ∧ i + 8 ≤ (z.2.1 : Int) ∧ (z.2.1 : Int) ≤ 4096) (hg : g1 + 10 ≤ 600000 ∧ g2 + 421 ≤ 7302249) (ho : XOPS X I sp rt tt z) : NXT X I sp rt tt z g1 g2 i 682 := NXL hi (ho.2.2.2.2.2.1 (z.2.2 (i + 1).toNat)) (fun h1 h2 => LS_10 hi (by omega) h1 h2)
theorem NX_11 (hX : XOK X) (hh : InvS I ∧ GN0 I ∧ GK I) (hx : X I sp tt z.1) (hi : 0 ≤ i ∧ i + 8 ≤ (z.2.1 : Int) ∧ (z.2.1 : Int) ≤ 4096) (hg : g1 + 10 ≤ 600000 ∧ g2 + 421 ≤ 7302249) (ho : XOPS X I sp rt tt z) : NXT X I sp rt tt z g1 g2 i 706 := NXL hi (ho.2.2.2.2.2.2.1 (z.2.2 (i + 1).toNat)) (fun h1 h2 => LS_11 hi (by omega) h1 h2)
theorem NX_12 (hX : XOK X) (hh : InvS I ∧ GN0 I ∧ GK I) (hx : X I sp tt z.1) (hi : 0 ≤ i ∧ i + 8 ≤ (z.2.1 : Int) ∧ (z.2.1 : Int) ≤ 4096) (hg : g1 + 10 ≤ 600000 ∧ g2 + 421 ≤ 7302249) : NXT X I sp rt tt z g1 g2 i 729 := NXL hi (OpL_N hX hx (o_place (z.2.2 (i + 1).toNat) hh.1 hh.2.1 hh.2.2)) (fun h1 h2 => LS_12 hi (by omega) h1 h2)
theorem NX_13 (hX : XOK X) (hh : InvS I ∧ GN0 I ∧ GK I) (hx : X I sp tt z.1) (hi : 0 ≤ i ∧ i + 8 ≤ (z.2.1 : Int) ∧ (z.2.1 : Int) ≤ 4096) (hg : g1 + 10 ≤ 600000 ∧ g2 + 421 ≤ 7302249) : NXT X I sp rt tt z g1 g2 i 752 := by
  by_cases e : (z.2.2 (i + 4).toNat) = 0
  · exact NXL hi (OpL_N hX hx (o_road (z.2.2 (i + 1).toNat) (z.2.2 (i + 2).toNat) (z.2.2 (i + 3).toNat) 0 (Or.inl rfl) hh.1 hh.2.1 hh.2.2)) (fun h1 h2 => LS_13 (Or.inl ⟨e, rfl⟩) hi (by omega) h1 h2)
  · exact NXL hi (OpL_N hX hx (o_road (z.2.2 (i + 1).toNat) (z.2.2 (i + 2).toNat) (z.2.2 (i + 3).toNat) 1 (Or.inr rfl) hh.1 hh.2.1 hh.2.2)) (fun h1 h2 => LS_13 (Or.inr ⟨e, rfl⟩) hi (by omega) h1 h2)
theorem NX_14 (hX : XOK X) (hh : InvS I ∧ GN0 I ∧ GK I) (hx : X I sp tt z.1) (hi : 0 ≤ i ∧ i + 8 ≤ (z.2.1 : Int) ∧ (z.2.1 : Int) ≤ 4096) (hg : g1 + 10 ≤ 600000 ∧ g2 + 421 ≤ 7302249) : NXT X I sp rt tt z g1 g2 i 821 := by
  by_cases e : (z.2.2 (i + 2).toNat) = 0
  · exact NXL hi (OpL_N hX hx (o_door (z.2.2 (i + 1).toNat) 0 (Or.inl rfl) hh.1 hh.2.1 hh.2.2)) (fun h1 h2 => LS_14 (Or.inl ⟨e, rfl⟩) hi (by omega) h1 h2)
  · exact NXL hi (OpL_N hX hx (o_door (z.2.2 (i + 1).toNat) 1 (Or.inr rfl) hh.1 hh.2.1 hh.2.2)) (fun h1 h2 => LS_14 (Or.inr ⟨e, rfl⟩) hi (by omega) h1 h2)
theorem NX_15 (hX : XOK X) (hh : InvS I ∧ GN0 I ∧ GK I) (hx : X I sp tt z.1) (hi : 0 ≤ i ∧ i + 8 ≤ (z.2.1 : Int) ∧ (z.2.1 : Int) ≤ 4096) (hg : g1 + 10 ≤ 600000 ∧ g2 + 421 ≤ 7302249) : NXT X I sp rt tt z g1 g2 i 870 := NXL hi (OpL_N hX hx (o_fan (z.2.2 (i + 1).toNat) (z.2.2 (i + 2).toNat) (z.2.2 (i + 3).toNat) (z.2.2 (i + 4).toNat) hh.1 hh.2.1 hh.2.2)) (fun h1 h2 => LS_15 hi (by omega) h1 h2)
theorem NX_16 (hX : XOK X) (hh : InvS I ∧ GN0 I ∧ GK I) (hx : X I sp tt z.1) (hi : 0 ≤ i ∧ i + 8 ≤ (z.2.1 : Int) ∧ (z.2.1 : Int) ≤ 4096) (hg : g1 + 10 ≤ 600000 ∧ g2 + 421 ≤ 7302249) : NXT X I sp rt tt z g1 g2 i 923 := NXL hi (OpL_N hX hx (o_air (z.2.2 (i + 1).toNat) hh.1 hh.2.1 hh.2.2)) (fun h1 h2 => LS_16 hi (by omega) h1 h2)
theorem NX_17 (hX : XOK X) (hh : InvS I ∧ GN0 I ∧ GK I) (hx : X I sp tt z.1) (hi : 0 ≤ i ∧ i + 8 ≤ (z.2.1 : Int) ∧ (z.2.1 : Int) ≤ 4096) (hg : g1 + 10 ≤ 600000 ∧ g2 + 421 ≤ 7302249) : NXT X I sp rt tt z g1 g2 i 946 := NXL hi (OpL_N hX hx (o_least (z.2.2 (i + 1).toNat) hh.1 hh.2.1 hh.2.2)) (fun h1 h2 => LS_17 hi (by omega) h1 h2)
theorem NX_18 (hX : XOK X) (hh : InvS I ∧ GN0 I ∧ GK I) (hx : X I sp tt z.1) (hi : 0 ≤ i ∧ i + 8 ≤ (z.2.1 : Int) ∧ (z.2.1 : Int) ≤ 4096) (hg : g1 + 10 ≤ 600000 ∧ g2 + 421 ≤ 7302249) : NXT X I sp rt tt z g1 g2 i 969 := NXL hi (OpL_N hX hx (o_trial (z.2.2 (i + 1).toNat) hh.1 hh.2.1 hh.2.2)) (fun h1 h2 => LS_18 hi (by omega) h1 h2)
theorem NX_19 (hX : XOK X) (hh : InvS I ∧ GN0 I ∧ GK I) (hx : X I sp tt z.1) (hi : 0 ≤ i ∧ i + 8 ≤ (z.2.1 : Int) ∧ (z.2.1 : Int) ≤ 4096) (hg : g1 + 10 ≤ 600000 ∧ g2 + 421 ≤ 7302249) : NXT X I sp rt tt z g1 g2 i 992 := NXL hi (OpL_N hX hx (o_worst (z.2.2 (i + 1).toNat) hh.1 hh.2.1 hh.2.2)) (fun h1 h2 => LS_19 hi (by omega) h1 h2)
theorem NX_20 (hX : XOK X) (hh : InvS I ∧ GN0 I ∧ GK I) (hx : X I sp tt z.1) (hi : 0 ≤ i ∧ i + 8 ≤ (z.2.1 : Int) ∧ (z.2.1 : Int) ≤ 4096) (hg : g1 + 10 ≤ 600000 ∧ g2 + 421 ≤ 7302249) : NXT X I sp rt tt z g1 g2 i 1015 := NXL hi (OpL_N hX hx (o_ways (z.2.2 (i + 1).toNat) hh.1 hh.2.1 hh.2.2)) (fun h1 h2 => LS_20 hi (by omega) h1 h2)
theorem NX_21 (hX : XOK X) (hh : InvS I ∧ GN0 I ∧ GK I) (hx : X I sp tt z.1) (hi : 0 ≤ i ∧ i + 8 ≤ (z.2.1 : Int) ∧ (z.2.1 : Int) ≤ 4096) (hg : g1 + 10 ≤ 600000 ∧ g2 + 421 ≤ 7302249) : NXT X I sp rt tt z g1 g2 i 1038 := NXL hi (OpL_N hX hx (o_fewest (z.2.2 (i + 1).toNat) hh.1 hh.2.1 hh.2.2)) (fun h1 h2 => LS_21 hi (by omega) h1 h2)
theorem NX_22 (hX : XOK X) (hh : InvS I ∧ GN0 I ∧ GK I) (hx : X I sp tt z.1) (hi : 0 ≤ i ∧ i + 8 ≤ (z.2.1 : Int) ∧ (z.2.1 : Int) ≤ 4096) (hg : g1 + 10 ≤ 600000 ∧ g2 + 421 ≤ 7302249) : NXT X I sp rt tt z g1 g2 i 1061 := NXL hi (OpL_R hX hh hx (o_plan (z.2.2 (i + 1).toNat) (z.2.2 (i + 2).toNat) (z.2.2 (i + 3).toNat) (z.2.2 (i + 4).toNat) hh.1)) (fun h1 h2 => LS_22 hi (by omega) h1 h2)
theorem NX_23 (hX : XOK X) (hh : InvS I ∧ GN0 I ∧ GK I) (hx : X I sp tt z.1) (hi : 0 ≤ i ∧ i + 8 ≤ (z.2.1 : Int) ∧ (z.2.1 : Int) ≤ 4096) (hg : g1 + 10 ≤ 600000 ∧ g2 + 421 ≤ 7302249) : NXT X I sp rt tt z g1 g2 i 1114 := NXL hi (OpL_R hX hh hx (o_shift (z.2.2 (i + 1).toNat) (z.2.2 (i + 2).toNat) (z.2.2 (i + 3).toNat) hh.1)) (fun h1 h2 => LS_23 hi (by omega) h1 h2)
theorem NX_24 (hX : XOK X) (hh : InvS I ∧ GN0 I ∧ GK I) (hx : X I sp tt z.1) (hi : 0 ≤ i ∧ i + 8 ≤ (z.2.1 : Int) ∧ (z.2.1 : Int) ≤ 4096) (hg : g1 + 10 ≤ 600000 ∧ g2 + 421 ≤ 7302249) : NXT X I sp rt tt z g1 g2 i 1157 := NXL hi (OpL_R hX hh hx (o_water (z.2.2 (i + 1).toNat) (z.2.2 (i + 2).toNat) (z.2.2 (i + 3).toNat) hh.1)) (fun h1 h2 => LS_24 hi (by omega) h1 h2)
theorem NX_25 (hX : XOK X) (hh : InvS I ∧ GN0 I ∧ GK I) (hx : X I sp tt z.1) (hi : 0 ≤ i ∧ i + 8 ≤ (z.2.1 : Int) ∧ (z.2.1 : Int) ≤ 4096) (hg : g1 + 10 ≤ 600000 ∧ g2 + 421 ≤ 7302249) : NXT X I sp rt tt z g1 g2 i 1200 := NXL hi (OpL_R hX hh hx (o_face (z.2.2 (i + 1).toNat) (z.2.2 (i + 2).toNat) (z.2.2 (i + 3).toNat) (z.2.2 (i + 4).toNat) hh.1)) (fun h1 h2 => LS_25 hi (by omega) h1 h2)
theorem NX_26 (hX : XOK X) (hh : InvS I ∧ GN0 I ∧ GK I) (hx : X I sp tt z.1) (hi : 0 ≤ i ∧ i + 8 ≤ (z.2.1 : Int) ∧ (z.2.1 : Int) ≤ 4096) (hg : g1 + 10 ≤ 600000 ∧ g2 + 421 ≤ 7302249) : NXT X I sp rt tt z g1 g2 i 1253 := NXL hi (OpL_R hX hh hx (o_yards (z.2.2 (i + 1).toNat) (z.2.2 (i + 2).toNat) (z.2.2 (i + 3).toNat) hh.1)) (fun h1 h2 => LS_26 hi (by omega) h1 h2)
theorem NX_27 (hX : XOK X) (hh : InvS I ∧ GN0 I ∧ GK I) (hx : X I sp tt z.1) (hi : 0 ≤ i ∧ i + 8 ≤ (z.2.1 : Int) ∧ (z.2.1 : Int) ≤ 4096) (hg : g1 + 10 ≤ 600000 ∧ g2 + 421 ≤ 7302249) : NXT X I sp rt tt z g1 g2 i 1296 := by
  by_cases e : (z.2.2 (i + 2).toNat) = 0
  · exact NXL hi (OpL_R hX hh hx (o_nearest (z.2.2 (i + 1).toNat) 0 (Or.inl rfl) hh.1)) (fun h1 h2 => LS_27 (Or.inl ⟨e, rfl⟩) hi (by omega) h1 h2)
  · exact NXL hi (OpL_R hX hh hx (o_nearest (z.2.2 (i + 1).toNat) 1 (Or.inr rfl) hh.1)) (fun h1 h2 => LS_27 (Or.inr ⟨e, rfl⟩) hi (by omega) h1 h2)
theorem NX_28 (hX : XOK X) (hh : InvS I ∧ GN0 I ∧ GK I) (hx : X I sp tt z.1) (hi : 0 ≤ i ∧ i + 8 ≤ (z.2.1 : Int) ∧ (z.2.1 : Int) ≤ 4096) (hg : g1 + 10 ≤ 600000 ∧ g2 + 421 ≤ 7302249) : NXT X I sp rt tt z g1 g2 i 1345 := NXL hi (OpL_R hX hh hx (o_moves (z.2.2 (i + 1).toNat) (z.2.2 (i + 2).toNat) (z.2.2 (i + 3).toNat) (z.2.2 (i + 4).toNat) hh.1)) (fun h1 h2 => LS_28 hi (by omega) h1 h2)
theorem NX_29 (hX : XOK X) (hh : InvS I ∧ GN0 I ∧ GK I) (hx : X I sp tt z.1) (hi : 0 ≤ i ∧ i + 8 ≤ (z.2.1 : Int) ∧ (z.2.1 : Int) ≤ 4096) (hg : g1 + 10 ≤ 600000 ∧ g2 + 421 ≤ 7302249) : NXT X I sp rt tt z g1 g2 i 1398 := NXL hi (OpL_R hX hh hx (o_join (z.2.2 (i + 1).toNat) (z.2.2 (i + 2).toNat) (z.2.2 (i + 3).toNat) (z.2.2 (i + 4).toNat) (z.2.2 (i + 5).toNat) (z.2.2 (i + 6).toNat) (z.2.2 (i + 7).toNat) hh.1)) (fun h1 h2 => LS_29 hi (by omega) h1 h2)
theorem NX_30 (hX : XOK X) (hh : InvS I ∧ GN0 I ∧ GK I) (hx : X I sp tt z.1) (hi : 0 ≤ i ∧ i + 8 ≤ (z.2.1 : Int) ∧ (z.2.1 : Int) ≤ 4096) (hg : g1 + 10 ≤ 600000 ∧ g2 + 421 ≤ 7302249) : NXT X I sp rt tt z g1 g2 i 1485 := NXL hi (OpL_R hX hh hx (o_torn hh.1)) (fun h1 h2 => LS_30 hi (by omega) h1 h2)
theorem NX_31 (hX : XOK X) (hh : InvS I ∧ GN0 I ∧ GK I) (hx : X I sp tt z.1) (hi : 0 ≤ i ∧ i + 8 ≤ (z.2.1 : Int) ∧ (z.2.1 : Int) ≤ 4096) (hg : g1 + 10 ≤ 600000 ∧ g2 + 421 ≤ 7302249) : NXT X I sp rt tt z g1 g2 i 1498 := NXL hi (OpL_R hX hh hx (o_lamp (z.2.2 (i + 1).toNat) hh.1)) (fun h1 h2 => LS_31 hi (by omega) h1 h2)
theorem NX_32 (hX : XOK X) (hh : InvS I ∧ GN0 I ∧ GK I) (hx : X I sp tt z.1) (hi : 0 ≤ i ∧ i + 8 ≤ (z.2.1 : Int) ∧ (z.2.1 : Int) ≤ 4096) (hg : g1 + 10 ≤ 600000 ∧ g2 + 421 ≤ 7302249) : NXT X I sp rt tt z g1 g2 i 1521 := NXL hi (OpL_R hX hh hx (o_down (z.2.2 (i + 1).toNat) (z.2.2 (i + 2).toNat) hh.1)) (fun h1 h2 => LS_32 hi (by omega) h1 h2)
theorem NX_33 (hX : XOK X) (hh : InvS I ∧ GN0 I ∧ GK I) (hx : X I sp tt z.1) (hi : 0 ≤ i ∧ i + 8 ≤ (z.2.1 : Int) ∧ (z.2.1 : Int) ≤ 4096) (hg : g1 + 10 ≤ 600000 ∧ g2 + 421 ≤ 7302249) : NXT X I sp rt tt z g1 g2 i 1554 := NXL hi (OpL_R hX hh hx (o_up (z.2.2 (i + 1).toNat) hh.1)) (fun h1 h2 => LS_33 hi (by omega) h1 h2)
theorem NX_34 (hX : XOK X) (hh : InvS I ∧ GN0 I ∧ GK I) (hx : X I sp tt z.1) (hi : 0 ≤ i ∧ i + 8 ≤ (z.2.1 : Int) ∧ (z.2.1 : Int) ≤ 4096) (hg : g1 + 10 ≤ 600000 ∧ g2 + 421 ≤ 7302249) : NXT X I sp rt tt z g1 g2 i 1577 := NXL hi (OpL_R hX hh hx (o_differs (z.2.2 (i + 1).toNat) hh.1)) (fun h1 h2 => LS_34 hi (by omega) h1 h2)
theorem NX_35 (hX : XOK X) (hh : InvS I ∧ GN0 I ∧ GK I) (hx : X I sp tt z.1) (hi : 0 ≤ i ∧ i + 8 ≤ (z.2.1 : Int) ∧ (z.2.1 : Int) ≤ 4096) (hg : g1 + 10 ≤ 600000 ∧ g2 + 421 ≤ 7302249) : NXT X I sp rt tt z g1 g2 i 1600 := NXL hi (OpL_R hX hh hx (o_book (z.2.2 (i + 1).toNat) (z.2.2 (i + 2).toNat) hh.1)) (fun h1 h2 => LS_35 hi (by omega) h1 h2)
theorem NX_36 (hX : XOK X) (hh : InvS I ∧ GN0 I ∧ GK I) (hx : X I sp tt z.1) (hi : 0 ≤ i ∧ i + 8 ≤ (z.2.1 : Int) ∧ (z.2.1 : Int) ≤ 4096) (hg : g1 + 10 ≤ 600000 ∧ g2 + 421 ≤ 7302249) : NXT X I sp rt tt z g1 g2 i 1633 := NXL hi (OpL_R hX hh hx (o_had (z.2.2 (i + 1).toNat) (z.2.2 (i + 2).toNat) (z.2.2 (i + 3).toNat) hh.1)) (fun h1 h2 => LS_36 hi (by omega) h1 h2)
theorem NX_37 (hX : XOK X) (hh : InvS I ∧ GN0 I ∧ GK I) (hx : X I sp tt z.1) (hi : 0 ≤ i ∧ i + 8 ≤ (z.2.1 : Int) ∧ (z.2.1 : Int) ≤ 4096) (hg : g1 + 10 ≤ 600000 ∧ g2 + 421 ≤ 7302249) : NXT X I sp rt tt z g1 g2 i 1676 := NXL hi (OpL_R hX hh hx (o_shot (z.2.2 (i + 1).toNat) hh.1)) (fun h1 h2 => LS_37 hi (by omega) h1 h2)
theorem NX_38 (hX : XOK X) (hh : InvS I ∧ GN0 I ∧ GK I) (hx : X I sp tt z.1) (hi : 0 ≤ i ∧ i + 8 ≤ (z.2.1 : Int) ∧ (z.2.1 : Int) ≤ 4096) (hg : g1 + 10 ≤ 600000 ∧ g2 + 421 ≤ 7302249) : NXT X I sp rt tt z g1 g2 i 1699 := NXL hi (OpL_R hX hh hx (o_shots (z.2.2 (i + 1).toNat) (z.2.2 (i + 2).toNat) (z.2.2 (i + 3).toNat) hh.1)) (fun h1 h2 => LS_38 hi (by omega) h1 h2)
theorem NX_39 (hX : XOK X) (hh : InvS I ∧ GN0 I ∧ GK I) (hx : X I sp tt z.1) (hi : 0 ≤ i ∧ i + 8 ≤ (z.2.1 : Int) ∧ (z.2.1 : Int) ≤ 4096) (hg : g1 + 10 ≤ 600000 ∧ g2 + 421 ≤ 7302249) : NXT X I sp rt tt z g1 g2 i 1742 := NXL hi (OpL_R hX hh hx (o_warn (z.2.2 (i + 1).toNat) hh.1)) (fun h1 h2 => LS_39 hi (by omega) h1 h2)
theorem NX_40 (hX : XOK X) (hh : InvS I ∧ GN0 I ∧ GK I) (hx : X I sp tt z.1) (hi : 0 ≤ i ∧ i + 8 ≤ (z.2.1 : Int) ∧ (z.2.1 : Int) ≤ 4096) (hg : g1 + 10 ≤ 600000 ∧ g2 + 421 ≤ 7302249) : NXT X I sp rt tt z g1 g2 i 1765 := NXL hi (OpL_R hX hh hx (o_tell (z.2.2 (i + 1).toNat) (z.2.2 (i + 2).toNat) (z.2.2 (i + 3).toNat) hh.1)) (fun h1 h2 => LS_40 hi (by omega) h1 h2)
theorem NX_41 (hX : XOK X) (hh : InvS I ∧ GN0 I ∧ GK I) (hx : X I sp tt z.1) (hi : 0 ≤ i ∧ i + 8 ≤ (z.2.1 : Int) ∧ (z.2.1 : Int) ≤ 4096) (hg : g1 + 10 ≤ 600000 ∧ g2 + 421 ≤ 7302249) : NXT X I sp rt tt z g1 g2 i 1808 := NXL hi (OpL_R hX hh hx (o_act (z.2.2 (i + 1).toNat) (z.2.2 (i + 2).toNat) hh.1)) (fun h1 h2 => LS_41 hi (by omega) h1 h2)
theorem NX_42 (hX : XOK X) (hh : InvS I ∧ GN0 I ∧ GK I) (hx : X I sp tt z.1) (hi : 0 ≤ i ∧ i + 8 ≤ (z.2.1 : Int) ∧ (z.2.1 : Int) ≤ 4096) (hg : g1 + 10 ≤ 600000 ∧ g2 + 421 ≤ 7302249) : NXT X I sp rt tt z g1 g2 i 1841 := NXL hi (OpL_R hX hh hx (o_knew (z.2.2 (i + 1).toNat) (z.2.2 (i + 2).toNat) (z.2.2 (i + 3).toNat) hh.1)) (fun h1 h2 => LS_42 hi (by omega) h1 h2)
theorem NX_43 (hX : XOK X) (hh : InvS I ∧ GN0 I ∧ GK I) (hx : X I sp tt z.1) (hi : 0 ≤ i ∧ i + 8 ≤ (z.2.1 : Int) ∧ (z.2.1 : Int) ≤ 4096) (hg : g1 + 10 ≤ 600000 ∧ g2 + 421 ≤ 7302249) (ho : XOPS X I sp rt tt z) : NXT X I sp rt tt z g1 g2 i 1884 := NXL hi (ho.2.2.2.2.2.2.2.1 (z.2.2 (i + 1).toNat) (z.2.2 (i + 2).toNat)) (fun h1 h2 => LS_43 hi (by omega) h1 h2)
theorem NX_44 (hX : XOK X) (hh : InvS I ∧ GN0 I ∧ GK I) (hx : X I sp tt z.1) (hi : 0 ≤ i ∧ i + 8 ≤ (z.2.1 : Int) ∧ (z.2.1 : Int) ≤ 4096) (hg : g1 + 10 ≤ 600000 ∧ g2 + 421 ≤ 7302249) : NXT X I sp rt tt z g1 g2 i 1917 := NXL hi (OpL_R hX hh hx (o_fall (z.2.2 (i + 1).toNat) hh.1)) (fun h1 h2 => LS_44 hi (by omega) h1 h2)
theorem NX_45 (hX : XOK X) (hh : InvS I ∧ GN0 I ∧ GK I) (hx : X I sp tt z.1) (hi : 0 ≤ i ∧ i + 8 ≤ (z.2.1 : Int) ∧ (z.2.1 : Int) ≤ 4096) (hg : g1 + 10 ≤ 600000 ∧ g2 + 421 ≤ 7302249) : NXT X I sp rt tt z g1 g2 i 1940 := NXL hi (OpL_R hX hh hx (o_beyond (z.2.2 (i + 1).toNat) hh.1)) (fun h1 h2 => LS_45 hi (by omega) h1 h2)
theorem NX_46 (hX : XOK X) (hh : InvS I ∧ GN0 I ∧ GK I) (hx : X I sp tt z.1) (hi : 0 ≤ i ∧ i + 8 ≤ (z.2.1 : Int) ∧ (z.2.1 : Int) ≤ 4096) (hg : g1 + 10 ≤ 600000 ∧ g2 + 421 ≤ 7302249) : NXT X I sp rt tt z g1 g2 i 1963 := NXL hi (OpL_R hX hh hx (o_inspectors (z.2.2 (i + 1).toNat) hh.1)) (fun h1 h2 => LS_46 hi (by omega) h1 h2)
theorem NX_47 (hX : XOK X) (hh : InvS I ∧ GN0 I ∧ GK I) (hx : X I sp tt z.1) (hi : 0 ≤ i ∧ i + 8 ≤ (z.2.1 : Int) ∧ (z.2.1 : Int) ≤ 4096) (hg : g1 + 10 ≤ 600000 ∧ g2 + 421 ≤ 7302249) (ho : XOPS X I sp rt tt z) : NXT X I sp rt tt z g1 g2 i 1986 := NXL hi (ho.2.2.2.2.2.2.2.2.1 (z.2.2 (i + 1).toNat)) (fun h1 h2 => LS_47 hi (by omega) h1 h2)
theorem NX_48 (hX : XOK X) (hh : InvS I ∧ GN0 I ∧ GK I) (hx : X I sp tt z.1) (hi : 0 ≤ i ∧ i + 8 ≤ (z.2.1 : Int) ∧ (z.2.1 : Int) ≤ 4096) (hg : g1 + 10 ≤ 600000 ∧ g2 + 421 ≤ 7302249) (ho : XOPS X I sp rt tt z) : NXT X I sp rt tt z g1 g2 i 2009 := NXL hi (ho.2.2.2.2.2.2.2.2.2 (z.2.2 (i + 1).toNat) (z.2.2 (i + 2).toNat) (z.2.2 (i + 3).toNat)) (fun h1 h2 => LS_48 hi (by omega) h1 h2)
theorem NX_49 (hX : XOK X) (hh : InvS I ∧ GN0 I ∧ GK I) (hx : X I sp tt z.1) (hi : 0 ≤ i ∧ i + 8 ≤ (z.2.1 : Int) ∧ (z.2.1 : Int) ≤ 4096) (hg : g1 + 10 ≤ 600000 ∧ g2 + 421 ≤ 7302249) : NXT X I sp rt tt z g1 g2 i 2052 := NXL hi (OpL_R hX hh hx (o_look (z.2.2 (i + 1).toNat) (z.2.2 (i + 2).toNat) hh.1)) (fun h1 h2 => LS_49 hi (by omega) h1 h2)
theorem NX_50 (hX : XOK X) (hh : InvS I ∧ GN0 I ∧ GK I) (hx : X I sp tt z.1) (hi : 0 ≤ i ∧ i + 8 ≤ (z.2.1 : Int) ∧ (z.2.1 : Int) ≤ 4096) (hg : g1 + 10 ≤ 600000 ∧ g2 + 421 ≤ 7302249) : NXT X I sp rt tt z g1 g2 i 2085 := NXL hi (OpL_R hX hh hx (o_seen (z.2.2 (i + 1).toNat) (z.2.2 (i + 2).toNat) (z.2.2 (i + 3).toNat) hh.1 ⟨hh.2.1.1.1.1, hh.2.1.1.1.2⟩ hh.2.1.2.1.1)) (fun h1 h2 => LS_50 hi (by omega) h1 h2)
theorem NX_51 (hX : XOK X) (hh : InvS I ∧ GN0 I ∧ GK I) (hx : X I sp tt z.1) (hi : 0 ≤ i ∧ i + 8 ≤ (z.2.1 : Int) ∧ (z.2.1 : Int) ≤ 4096) (hg : g1 + 10 ≤ 600000 ∧ g2 + 421 ≤ 7302249) : NXT X I sp rt tt z g1 g2 i 2128 := NXL hi (OpL_R hX hh hx (o_pace (z.2.2 (i + 1).toNat) hh.1)) (fun h1 h2 => LS_51 hi (by omega) h1 h2)
theorem NX_52 (hX : XOK X) (hh : InvS I ∧ GN0 I ∧ GK I) (hx : X I sp tt z.1) (hi : 0 ≤ i ∧ i + 8 ≤ (z.2.1 : Int) ∧ (z.2.1 : Int) ≤ 4096) (hg : g1 + 10 ≤ 600000 ∧ g2 + 421 ≤ 7302249) : NXT X I sp rt tt z g1 g2 i 2151 := NXL hi (OpL_N hX hx (o_judge (z.2.2 (i + 1).toNat) hh.1 hh.2.1 hh.2.2)) (fun h1 h2 => LS_52 hi (by omega) h1 h2)
theorem NX_53 (hX : XOK X) (hh : InvS I ∧ GN0 I ∧ GK I) (hx : X I sp tt z.1) (hi : 0 ≤ i ∧ i + 8 ≤ (z.2.1 : Int) ∧ (z.2.1 : Int) ≤ 4096) (hg : g1 + 10 ≤ 600000 ∧ g2 + 421 ≤ 7302249) : NXT X I sp rt tt z g1 g2 i 2174 := NXL hi (OpL_N hX hx (o_most hh.1 hh.2.1 hh.2.2)) (fun h1 h2 => LS_53 hi (by omega) h1 h2)
theorem NX_54 (hX : XOK X) (hh : InvS I ∧ GN0 I ∧ GK I) (hx : X I sp tt z.1) (hi : 0 ≤ i ∧ i + 8 ≤ (z.2.1 : Int) ∧ (z.2.1 : Int) ≤ 4096) (hg : g1 + 10 ≤ 600000 ∧ g2 + 421 ≤ 7302249) : NXT X I sp rt tt z g1 g2 i 2187 := NXL hi (OpL_R hX hh hx (o_about (z.2.2 (i + 1).toNat) (z.2.2 (i + 2).toNat) hh.1)) (fun h1 h2 => LS_54 hi (by omega) h1 h2)
theorem NX_55 (hX : XOK X) (hh : InvS I ∧ GN0 I ∧ GK I) (hx : X I sp tt z.1) (hi : 0 ≤ i ∧ i + 8 ≤ (z.2.1 : Int) ∧ (z.2.1 : Int) ≤ 4096) (hg : g1 + 10 ≤ 600000 ∧ g2 + 421 ≤ 7302249) : NXT X I sp rt tt z g1 g2 i 2220 := NXL hi (OpL_R hX hh hx (o_count (z.2.2 (i + 1).toNat) hh.1 ⟨hX.2 hx, hh.2.1.1.1.1, hh.2.1.1.2.1⟩)) (fun h1 h2 => LS_55 hi (by omega) h1 h2)
theorem STEP (hX : XOK X) (hh : InvS I ∧ GN0 I ∧ GK I) (hx : X I sp tt z.1) (hi : 0 ≤ i ∧ i + 8 ≤ (z.2.1 : Int) ∧ (z.2.1 : Int) ≤ 4096) (hg : g1 + 10 ≤ 600000 ∧ g2 + 421 ≤ 7302249) (ho : XOPS X I sp rt tt z) : NXT X I sp rt tt z g1 g2 i 18 := by
  have key : NXT X I sp rt tt z g1 g2 i (swt [0, 1, 2, 3, 4, 5, 6, 7, 8, 9, 10, 11, 12, 13, 14, 15, 16, 17, 18, 19, 20, 21, 22, 23, 24, 25, 26, 27, 28, 29, 30, 31, 32, 33, 34, 35, 36, 37, 38, 39, 40, 41, 42, 43, 44, 45, 46, 47, 48, 49, 50, 51, 52, 53, 54, 55] [272, 295, 348, 391, 424, 487, 540, 573, 616, 639, 682, 706, 729, 752, 821, 870, 923, 946, 969, 992, 1015, 1038, 1061, 1114, 1157, 1200, 1253, 1296, 1345, 1398, 1485, 1498, 1521, 1554, 1577, 1600, 1633, 1676, 1699, 1742, 1765, 1808, 1841, 1884, 1917, 1940, 1963, 1986, 2009, 2052, 2085, 2128, 2151, 2174, 2187, 2220] 2243 (ia32 (z.2.2 i.toNat) 63)) := by
    refine swq (P := fun pc => NXT X I sp rt tt z g1 g2 i pc) (fun _ => NX_0 hX hh hx hi hg) ?_
    refine swq (P := fun pc => NXT X I sp rt tt z g1 g2 i pc) (fun _ => NX_1 hX hh hx hi hg) ?_
    refine swq (P := fun pc => NXT X I sp rt tt z g1 g2 i pc) (fun _ => NX_2 hX hh hx hi hg) ?_
    refine swq (P := fun pc => NXT X I sp rt tt z g1 g2 i pc) (fun _ => NX_3 hX hh hx hi hg) ?_
    refine swq (P := fun pc => NXT X I sp rt tt z g1 g2 i pc) (fun _ => NX_4 hX hh hx hi hg) ?_
    refine swq (P := fun pc => NXT X I sp rt tt z g1 g2 i pc) (fun _ => NX_5 hX hh hx hi hg ho) ?_
    refine swq (P := fun pc => NXT X I sp rt tt z g1 g2 i pc) (fun _ => NX_6 hX hh hx hi hg ho) ?_
    refine swq (P := fun pc => NXT X I sp rt tt z g1 g2 i pc) (fun _ => NX_7 hX hh hx hi hg ho) ?_
    refine swq (P := fun pc => NXT X I sp rt tt z g1 g2 i pc) (fun _ => NX_8 hX hh hx hi hg ho) ?_
    refine swq (P := fun pc => NXT X I sp rt tt z g1 g2 i pc) (fun _ => NX_9 hX hh hx hi hg ho) ?_
    refine swq (P := fun pc => NXT X I sp rt tt z g1 g2 i pc) (fun _ => NX_10 hX hh hx hi hg ho) ?_
    refine swq (P := fun pc => NXT X I sp rt tt z g1 g2 i pc) (fun _ => NX_11 hX hh hx hi hg ho) ?_
    refine swq (P := fun pc => NXT X I sp rt tt z g1 g2 i pc) (fun _ => NX_12 hX hh hx hi hg) ?_
    refine swq (P := fun pc => NXT X I sp rt tt z g1 g2 i pc) (fun _ => NX_13 hX hh hx hi hg) ?_
    refine swq (P := fun pc => NXT X I sp rt tt z g1 g2 i pc) (fun _ => NX_14 hX hh hx hi hg) ?_
    refine swq (P := fun pc => NXT X I sp rt tt z g1 g2 i pc) (fun _ => NX_15 hX hh hx hi hg) ?_
    refine swq (P := fun pc => NXT X I sp rt tt z g1 g2 i pc) (fun _ => NX_16 hX hh hx hi hg) ?_
    refine swq (P := fun pc => NXT X I sp rt tt z g1 g2 i pc) (fun _ => NX_17 hX hh hx hi hg) ?_
    refine swq (P := fun pc => NXT X I sp rt tt z g1 g2 i pc) (fun _ => NX_18 hX hh hx hi hg) ?_
    refine swq (P := fun pc => NXT X I sp rt tt z g1 g2 i pc) (fun _ => NX_19 hX hh hx hi hg) ?_
    refine swq (P := fun pc => NXT X I sp rt tt z g1 g2 i pc) (fun _ => NX_20 hX hh hx hi hg) ?_
    refine swq (P := fun pc => NXT X I sp rt tt z g1 g2 i pc) (fun _ => NX_21 hX hh hx hi hg) ?_
    refine swq (P := fun pc => NXT X I sp rt tt z g1 g2 i pc) (fun _ => NX_22 hX hh hx hi hg) ?_
    refine swq (P := fun pc => NXT X I sp rt tt z g1 g2 i pc) (fun _ => NX_23 hX hh hx hi hg) ?_
    refine swq (P := fun pc => NXT X I sp rt tt z g1 g2 i pc) (fun _ => NX_24 hX hh hx hi hg) ?_
    refine swq (P := fun pc => NXT X I sp rt tt z g1 g2 i pc) (fun _ => NX_25 hX hh hx hi hg) ?_
    refine swq (P := fun pc => NXT X I sp rt tt z g1 g2 i pc) (fun _ => NX_26 hX hh hx hi hg) ?_
    refine swq (P := fun pc => NXT X I sp rt tt z g1 g2 i pc) (fun _ => NX_27 hX hh hx hi hg) ?_
    refine swq (P := fun pc => NXT X I sp rt tt z g1 g2 i pc) (fun _ => NX_28 hX hh hx hi hg) ?_
    refine swq (P := fun pc => NXT X I sp rt tt z g1 g2 i pc) (fun _ => NX_29 hX hh hx hi hg) ?_
    refine swq (P := fun pc => NXT X I sp rt tt z g1 g2 i pc) (fun _ => NX_30 hX hh hx hi hg) ?_
    refine swq (P := fun pc => NXT X I sp rt tt z g1 g2 i pc) (fun _ => NX_31 hX hh hx hi hg) ?_
    refine swq (P := fun pc => NXT X I sp rt tt z g1 g2 i pc) (fun _ => NX_32 hX hh hx hi hg) ?_
    refine swq (P := fun pc => NXT X I sp rt tt z g1 g2 i pc) (fun _ => NX_33 hX hh hx hi hg) ?_
    refine swq (P := fun pc => NXT X I sp rt tt z g1 g2 i pc) (fun _ => NX_34 hX hh hx hi hg) ?_
    refine swq (P := fun pc => NXT X I sp rt tt z g1 g2 i pc) (fun _ => NX_35 hX hh hx hi hg) ?_
    refine swq (P := fun pc => NXT X I sp rt tt z g1 g2 i pc) (fun _ => NX_36 hX hh hx hi hg) ?_
    refine swq (P := fun pc => NXT X I sp rt tt z g1 g2 i pc) (fun _ => NX_37 hX hh hx hi hg) ?_
    refine swq (P := fun pc => NXT X I sp rt tt z g1 g2 i pc) (fun _ => NX_38 hX hh hx hi hg) ?_
    refine swq (P := fun pc => NXT X I sp rt tt z g1 g2 i pc) (fun _ => NX_39 hX hh hx hi hg) ?_
    refine swq (P := fun pc => NXT X I sp rt tt z g1 g2 i pc) (fun _ => NX_40 hX hh hx hi hg) ?_
    refine swq (P := fun pc => NXT X I sp rt tt z g1 g2 i pc) (fun _ => NX_41 hX hh hx hi hg) ?_
    refine swq (P := fun pc => NXT X I sp rt tt z g1 g2 i pc) (fun _ => NX_42 hX hh hx hi hg) ?_
    refine swq (P := fun pc => NXT X I sp rt tt z g1 g2 i pc) (fun _ => NX_43 hX hh hx hi hg ho) ?_
    refine swq (P := fun pc => NXT X I sp rt tt z g1 g2 i pc) (fun _ => NX_44 hX hh hx hi hg) ?_
    refine swq (P := fun pc => NXT X I sp rt tt z g1 g2 i pc) (fun _ => NX_45 hX hh hx hi hg) ?_
    refine swq (P := fun pc => NXT X I sp rt tt z g1 g2 i pc) (fun _ => NX_46 hX hh hx hi hg) ?_
    refine swq (P := fun pc => NXT X I sp rt tt z g1 g2 i pc) (fun _ => NX_47 hX hh hx hi hg ho) ?_
    refine swq (P := fun pc => NXT X I sp rt tt z g1 g2 i pc) (fun _ => NX_48 hX hh hx hi hg ho) ?_
    refine swq (P := fun pc => NXT X I sp rt tt z g1 g2 i pc) (fun _ => NX_49 hX hh hx hi hg) ?_
    refine swq (P := fun pc => NXT X I sp rt tt z g1 g2 i pc) (fun _ => NX_50 hX hh hx hi hg) ?_
    refine swq (P := fun pc => NXT X I sp rt tt z g1 g2 i pc) (fun _ => NX_51 hX hh hx hi hg) ?_
    refine swq (P := fun pc => NXT X I sp rt tt z g1 g2 i pc) (fun _ => NX_52 hX hh hx hi hg) ?_
    refine swq (P := fun pc => NXT X I sp rt tt z g1 g2 i pc) (fun _ => NX_53 hX hh hx hi hg) ?_
    refine swq (P := fun pc => NXT X I sp rt tt z g1 g2 i pc) (fun _ => NX_54 hX hh hx hi hg) ?_
    refine swq (P := fun pc => NXT X I sp rt tt z g1 g2 i pc) (fun _ => NX_55 hX hh hx hi hg) ?_
    exact ⟨I, sp, rt, z.1, g1, g2, tt, NX0 hi, ⟨hh, hx⟩, by omega, by omega⟩
  obtain ⟨I2, sp2, rt2, n2, g3, g4, tt2, h1, h2⟩ := key
  refine ⟨I2, sp2, rt2, n2, g3, g4, tt2, Eq.trans ?_ h1, h2⟩
  refine (T_345_18 ..).trans ?_
  rw [w32_of (by omega) (by omega)]
  refine ci_t (by omega) ?_
  refine ci_t (by omega) ?_
  exact T_345_33 ..
theorem ENDL (hi : ¬ i + 8 ≤ (z.2.1 : Int)) (hL : 0 ≤ (z.2.1 : Int) ∧ (z.2.1 : Int) ≤ 4096) : Run PG (Call PG 300) 345 18 [(4, 0), (2, 0), (2, 82), (0, i)] [] (I, RF sp rt tt z.1, z) (g1, g2) = some (some (0, 1), (I, RF sp rt tt z.1, z)) := by
  refine (T_345_18 ..).trans ?_
  rw [w32_of (by omega) (by omega)]
  exact ci_f (by omega) rfl
end LT3
theorem LOOP {X : (Nat → Nat → Int) → Nat → (Nat → Nat) → Nat → Prop} (hX : XOK X) (ho : ∀ {I sp rt tt z}, (InvS I ∧ GN0 I ∧ GK I) → X I sp tt z.1 → XOPS X I sp rt tt z) : ∀ (k : Nat) (I : Nat → Nat → Int) (sp rt : Nat) (tt : Nat → Nat) (z : Zs) (g1 g2 : Nat) (i : Int), (InvS I ∧ GN0 I ∧ GK I) → X I sp tt z.1 → 0 ≤ i → (z.2.1 : Int) ≤ 4096 → (z.2.1 : Int) < i + 8 * (k + 1 : Nat) → g1 + 10 * k ≤ 600000 → g2 + 421 * k ≤ 7302249 → ∃ hq, Run PG (Call PG 300) 345 18 [(4, 0), (2, 0), (2, 82), (0, i)] [] (I, RF sp rt tt z.1, z) (g1, g2) = some (some (0, 1), hq) := by
  intro k
  induction k with
  | zero =>
    intro I sp rt tt z g1 g2 i hh hx h0 hL hk _ _
    exact ⟨_, ENDL (by omega) (by omega)⟩
  | succ k ih =>
    intro I sp rt tt z g1 g2 i hh hx h0 hL hk hg1 hg2
    by_cases c : i + 8 ≤ (z.2.1 : Int)
    · obtain ⟨I2, sp2, rt2, n2, g3, g4, tt2, h1, h2, h3, h4⟩ := STEP (g1 := g1) (g2 := g2) (rt := rt) hX hh hx ⟨h0, c, hL⟩ (by omega) (ho hh hx)
      obtain ⟨hq, e⟩ := ih I2 sp2 rt2 tt2 (n2, z.2) g3 g4 (i + 8) h2.1 h2.2 (by omega) hL (by show (z.2.1 : Int) < _; omega) (by omega) (by omega)
      exact ⟨hq, h1.trans e⟩
    · exact ⟨_, ENDL c (by omega)⟩
end LT2
