/-! texts: a new text's cells; the class takes a text in -/
set_option maxRecDepth 40000 in
theorem T_25_0 (C : Cal) (I : Nat → Nat → Int) (sp rt : Nat) (tt : Nat → Nat) (z : Zs) (x2 : Int) (x3 : Int) (x4 : Int) (x5 : Int) : Run PG C 25 0 [(2, 9), (2, 1), (0, x2), (0, x3), (0, x4), (0, x5), (9, 0)] [] (I, RF sp rt tt z.1, z) (0, 0) = bd (C 24 [(2, 9)] (I, RF sp rt tt z.1, z)) (fun v h => Run PG C 25 4 [(2, 9), (2, 1), (0, x2), (0, x3), (0, x4), (0, x5), (9, 0)] (v.toList ++ []) h (0, 0)) := (rt_eq CD_25 [4, 18, 29, 94, 102, 105] 3 0 _ _ _ _).trans (Eq.refl _)
set_option maxRecDepth 40000 in
theorem T_25_4 (C : Cal) (I : Nat → Nat → Int) (sp rt : Nat) (tt : Nat → Nat) (z : Zs) (x2 : Int) (x3 : Int) (x4 : Int) (x5 : Int) (s0 : Int) : Run PG C 25 4 [(2, 9), (2, 1), (0, x2), (0, x3), (0, x4), (0, x5), (9, 0)] [(0, s0)] (I, RF sp rt tt z.1, z) (0, 0) = (ci (s0 = 0) (nn (sp : Int) none (fun n10 => (if decide ((LAY n10).1 = 3) = true then bd (C 26 [(2, ((n10 : Nat) : Int)), (2, 1), (0, x2)] (I, RF sp rt tt z.1, z)) (fun v h => Run PG C 25 18 [(2, 9), (2, 1), (0, x2), (0, x3), (0, x4), (0, x5), (9, 0)] (v.toList ++ []) h (0, 0)) else none))) (some (some (0, (-1)), (I, RF sp rt tt z.1, z)))) := (rt_eq CD_25 [4, 18, 29, 94, 102, 105] 7 4 _ _ _ _).trans (Eq.refl _)
set_option maxRecDepth 40000 in
theorem T_25_18 (C : Cal) (I : Nat → Nat → Int) (sp rt : Nat) (tt : Nat → Nat) (z : Zs) (x2 : Int) (x3 : Int) (x4 : Int) (x5 : Int) : Run PG C 25 18 [(2, 9), (2, 1), (0, x2), (0, x3), (0, x4), (0, x5), (9, 0)] [] (I, RF sp rt tt z.1, z) (0, 0) = nn (sp : Int) (bd (C 27 [(2, 22), (3, 0)] (I, RF sp rt tt z.1, z)) (fun v h => Run PG C 25 29 [(2, 9), (2, 1), (0, x2), (0, x3), (0, x4), (0, x5), (9, 0)] (v.toList ++ []) h (0, 0))) (fun n23 => bd (C 27 [(2, 22), (2, ((n23 : Nat) : Int))] (I, RF sp rt tt z.1, z)) (fun v h => Run PG C 25 29 [(2, 9), (2, 1), (0, x2), (0, x3), (0, x4), (0, x5), (9, 0)] (v.toList ++ []) h (0, 0))) := (rt_eq CD_25 [4, 18, 29, 94, 102, 105] 6 18 _ _ _ _).trans (Eq.refl _)
set_option maxRecDepth 40000 in
theorem T_25_29 (C : Cal) (I : Nat → Nat → Int) (sp rt : Nat) (tt : Nat → Nat) (z : Zs) (x2 : Int) (x3 : Int) (x4 : Int) (x5 : Int) (s0 : Int) : Run PG C 25 29 [(2, 9), (2, 1), (0, x2), (0, x3), (0, x4), (0, x5), (9, 0)] [(0, s0)] (I, RF sp rt tt z.1, z) (0, 0) = (ci (s0 = 0) (nn (sp : Int) none (fun n40 => (if (LAY n40).1 = 3 then nn (sp : Int) none (fun n48 => (if (LAY n48).1 = 3 then nn (sp : Int) none (fun n57 => (if (LAY n57).1 = 3 then nn (sp : Int) none (fun n71 => (if (LAY n71).1 = 3 then nn (sp : Int) none (fun n90 => (if (LAY n90).1 = 3 then (ci (0 ≤ (up2 (up2 (up2 I n40 0 x3) n48 1 x4) n57 2 x5) 9 1 ∧ (up2 (up2 (up2 I n40 0 x3) n48 1 x4) n57 2 x5) 9 1 < 30) (Run PG C 25 94 [(2, 9), (2, 1), (0, x2), (0, x3), (0, x4), (0, x5), (0, s0)] [] (up2 (up2 (up2 (up2 I n40 0 x3) n48 1 x4) n57 2 x5) 9 5 (io32 ((up2 (up2 (up2 I n40 0 x3) n48 1 x4) n57 2 x5) 9 5) ((up2 (up2 (up2 I n40 0 x3) n48 1 x4) n57 2 x5) n71 16)), up2 (RF sp rt tt z.1) 11 ((up2 (up2 (up2 I n40 0 x3) n48 1 x4) n57 2 x5) 9 1).toNat (((n90 : Nat) : Int) + 1), z) (0, 0)) none) else none)) else none)) else none)) else none)) else none))) (some (some (0, s0), (I, RF sp rt tt z.1, z)))) := (rt_eq CD_25 [4, 18, 29, 94, 102, 105] 31 29 _ _ _ _).trans (Eq.refl _)
set_option maxRecDepth 40000 in
theorem T_25_94 (C : Cal) (I : Nat → Nat → Int) (sp rt : Nat) (tt : Nat → Nat) (z : Zs) (x2 x3 x4 x5 x6 : Int) : Run PG C 25 94 [(2, 9), (2, 1), (0, x2), (0, x3), (0, x4), (0, x5), (0, x6)] [] (I, RF sp rt tt z.1, z) (0, 0) = (if (LAY z.1).1 = 3 ∧ 0 + 1 ≤ 10 ∧ 0 + (LAY z.1).2 ≤ 421 then (if 0 + 1 + 9 ≤ 10 ∧ 0 + (LAY z.1).2 + 404 ≤ 421 then bd (C 3 [(2, ((z.1 : Nat) : Int))] (I, RF sp rt tt z.1, z.1 + 1, z.2)) (fun v h => Run PG C 25 102 [(2, 9), (2, 1), (0, x2), (0, x3), (0, x4), (0, x5), (0, x6)] (v.toList ++ [(2, ((z.1 : Nat) : Int)), (2, 9)]) h (0 + 1 + 9, 0 + (LAY z.1).2 + 404)) else none) else none) := (rt_eq CD_25 [102] 4 94 _ _ _ _).trans (Eq.refl _)
set_option maxRecDepth 40000 in
theorem T_25_102 (C : Cal) (I R : Nat → Nat → Int) (n m g1 g2 : Nat) (zz : Nat × (Nat → Int)) (x2 x3 x4 x5 x6 : Int) : Run PG C 25 102 [(2, 9), (2, 1), (0, x2), (0, x3), (0, x4), (0, x5), (0, x6)] [(2, ((n : Nat) : Int)), (2, 9)] (I, R, m, zz) (g1, g2) = (if (LAY 9).1 = 2 then Run PG C 25 105 [(2, 9), (2, 1), (0, x2), (0, x3), (0, x4), (0, x5), (0, x6)] [] (I, up2 R 9 3 (((n : Nat) : Int) + 1), m, zz) (g1, g2) else none) := (rt_eq CD_25 [105] 1 102 _ _ _ _).trans (Eq.refl _)
set_option maxRecDepth 40000 in
theorem T_25_105 (C : Cal) (I R : Nat → Nat → Int) (m g1 g2 : Nat) (zz : Nat × (Nat → Int)) (x2 x3 x4 x5 x6 : Int) : Run PG C 25 105 [(2, 9), (2, 1), (0, x2), (0, x3), (0, x4), (0, x5), (0, x6)] [] (I, R, m, zz) (g1, g2) = some (some (0, w32 ((up2 I 9 1 (w32 ((I 9 1) + 1))) 9 1 - 1)), (up2 I 9 1 (w32 ((I 9 1) + 1)), R, m, zz)) := (rt_eq CD_25 [] 12 105 _ _ _ _).trans (Eq.refl _)
set_option maxRecDepth 40000 in
theorem CG_0 (C : Cal) (I R : Nat → Nat → Int) (n m g1 g2 : Nat) (zz : Nat × (Nat → Int)) : Run PG C 3 0 [(2, ((n : Nat) : Int))] [] (I, R, m, zz) (g1, g2) = (if 0 ≤ (160 : Int) ∧ LAY m = (21, (160 : Int).toNat) ∧ g1 + 1 ≤ 9 ∧ g2 + (160 : Int).toNat ≤ 404 then (if (LAY n).1 = 3 then Run PG C 3 13 [(2, ((n : Nat) : Int))] [] (I, up2 R n 4 (((m : Nat) : Int) + 1), m + 1, zz) (g1 + 1, g2 + (160 : Int).toNat) else none) else none) := (rt_eq CD_3 [13] 6 0 _ _ _ _).trans (Eq.refl _)
set_option maxRecDepth 40000 in
theorem CG_13 (C : Cal) (I R : Nat → Nat → Int) (n m g1 g2 : Nat) (zz : Nat × (Nat → Int)) : Run PG C 3 13 [(2, ((n : Nat) : Int))] [] (I, R, m, zz) (g1, g2) = (if 0 ≤ (12 : Int) ∧ LAY m = (20, (12 : Int).toNat) ∧ g1 + 1 ≤ 9 ∧ g2 + (12 : Int).toNat ≤ 404 then (if (LAY n).1 = 3 then Run PG C 3 21 [(2, ((n : Nat) : Int))] [] (I, up2 R n 6 (((m : Nat) : Int) + 1), m + 1, zz) (g1 + 1, g2 + (12 : Int).toNat) else none) else none) := (rt_eq CD_3 [21] 4 13 _ _ _ _).trans (Eq.refl _)
set_option maxRecDepth 40000 in
theorem CG_21 (C : Cal) (I R : Nat → Nat → Int) (n m g1 g2 : Nat) (zz : Nat × (Nat → Int)) : Run PG C 3 21 [(2, ((n : Nat) : Int))] [] (I, R, m, zz) (g1, g2) = (if 0 ≤ (12 : Int) ∧ LAY m = (20, (12 : Int).toNat) ∧ g1 + 1 ≤ 9 ∧ g2 + (12 : Int).toNat ≤ 404 then (if (LAY n).1 = 3 then Run PG C 3 29 [(2, ((n : Nat) : Int))] [] (I, up2 R n 7 (((m : Nat) : Int) + 1), m + 1, zz) (g1 + 1, g2 + (12 : Int).toNat) else none) else none) := (rt_eq CD_3 [29] 4 21 _ _ _ _).trans (Eq.refl _)
set_option maxRecDepth 40000 in
theorem CG_29 (C : Cal) (I R : Nat → Nat → Int) (n m g1 g2 : Nat) (zz : Nat × (Nat → Int)) : Run PG C 3 29 [(2, ((n : Nat) : Int))] [] (I, R, m, zz) (g1, g2) = (if 0 ≤ (12 : Int) ∧ LAY m = (20, (12 : Int).toNat) ∧ g1 + 1 ≤ 9 ∧ g2 + (12 : Int).toNat ≤ 404 then (if (LAY n).1 = 3 then Run PG C 3 37 [(2, ((n : Nat) : Int))] [] (I, up2 R n 8 (((m : Nat) : Int) + 1), m + 1, zz) (g1 + 1, g2 + (12 : Int).toNat) else none) else none) := (rt_eq CD_3 [37] 4 29 _ _ _ _).trans (Eq.refl _)
set_option maxRecDepth 40000 in
theorem CG_37 (C : Cal) (I R : Nat → Nat → Int) (n m g1 g2 : Nat) (zz : Nat × (Nat → Int)) : Run PG C 3 37 [(2, ((n : Nat) : Int))] [] (I, R, m, zz) (g1, g2) = (if 0 ≤ (12 : Int) ∧ LAY m = (20, (12 : Int).toNat) ∧ g1 + 1 ≤ 9 ∧ g2 + (12 : Int).toNat ≤ 404 then (if (LAY n).1 = 3 then Run PG C 3 45 [(2, ((n : Nat) : Int))] [] (I, up2 R n 9 (((m : Nat) : Int) + 1), m + 1, zz) (g1 + 1, g2 + (12 : Int).toNat) else none) else none) := (rt_eq CD_3 [45] 4 37 _ _ _ _).trans (Eq.refl _)
set_option maxRecDepth 40000 in
theorem CG_45 (C : Cal) (I R : Nat → Nat → Int) (n m g1 g2 : Nat) (zz : Nat × (Nat → Int)) : Run PG C 3 45 [(2, ((n : Nat) : Int))] [] (I, R, m, zz) (g1, g2) = (if 0 ≤ (12 : Int) ∧ LAY m = (20, (12 : Int).toNat) ∧ g1 + 1 ≤ 9 ∧ g2 + (12 : Int).toNat ≤ 404 then (if (LAY n).1 = 3 then Run PG C 3 53 [(2, ((n : Nat) : Int))] [] (I, up2 R n 10 (((m : Nat) : Int) + 1), m + 1, zz) (g1 + 1, g2 + (12 : Int).toNat) else none) else none) := (rt_eq CD_3 [53] 4 45 _ _ _ _).trans (Eq.refl _)
set_option maxRecDepth 40000 in
theorem CG_53 (C : Cal) (I R : Nat → Nat → Int) (n m g1 g2 : Nat) (zz : Nat × (Nat → Int)) : Run PG C 3 53 [(2, ((n : Nat) : Int))] [] (I, R, m, zz) (g1, g2) = (if 0 ≤ (12 : Int) ∧ LAY m = (20, (12 : Int).toNat) ∧ g1 + 1 ≤ 9 ∧ g2 + (12 : Int).toNat ≤ 404 then (if (LAY n).1 = 3 then Run PG C 3 61 [(2, ((n : Nat) : Int))] [] (I, up2 R n 11 (((m : Nat) : Int) + 1), m + 1, zz) (g1 + 1, g2 + (12 : Int).toNat) else none) else none) := (rt_eq CD_3 [61] 4 53 _ _ _ _).trans (Eq.refl _)
set_option maxRecDepth 40000 in
theorem CG_61 (C : Cal) (I R : Nat → Nat → Int) (n m g1 g2 : Nat) (zz : Nat × (Nat → Int)) : Run PG C 3 61 [(2, ((n : Nat) : Int))] [] (I, R, m, zz) (g1, g2) = (if 0 ≤ (12 : Int) ∧ LAY m = (20, (12 : Int).toNat) ∧ g1 + 1 ≤ 9 ∧ g2 + (12 : Int).toNat ≤ 404 then (if (LAY n).1 = 3 then Run PG C 3 69 [(2, ((n : Nat) : Int))] [] (I, up2 R n 12 (((m : Nat) : Int) + 1), m + 1, zz) (g1 + 1, g2 + (12 : Int).toNat) else none) else none) := (rt_eq CD_3 [69] 4 61 _ _ _ _).trans (Eq.refl _)
set_option maxRecDepth 40000 in
theorem CG_69 (C : Cal) (I R : Nat → Nat → Int) (n m g1 g2 : Nat) (zz : Nat × (Nat → Int)) : Run PG C 3 69 [(2, ((n : Nat) : Int))] [] (I, R, m, zz) (g1, g2) = (if 0 ≤ (160 : Int) ∧ LAY m = (20, (160 : Int).toNat) ∧ g1 + 1 ≤ 9 ∧ g2 + (160 : Int).toNat ≤ 404 then (if (LAY n).1 = 3 then Run PG C 3 78 [(2, ((n : Nat) : Int))] [] (I, up2 R n 14 (((m : Nat) : Int) + 1), m + 1, zz) (g1 + 1, g2 + (160 : Int).toNat) else none) else none) := (rt_eq CD_3 [78] 4 69 _ _ _ _).trans (Eq.refl _)
theorem CG_78 (C : Cal) (I R : Nat → Nat → Int) (n m g1 g2 : Nat) (zz : Nat × (Nat → Int)) : Run PG C 3 78 [(2, ((n : Nat) : Int))] [] (I, R, m, zz) (g1, g2) = some (none, (I, R, m, zz)) := (rt_eq CD_3 [] 1 78 _ _ _ _).trans (Eq.refl _)
theorem N_3g (d n : Nat) (I R : Nat → Nat → Int) (zz : Nat × (Nat → Int)) (hl : ∀ x, x < 10 → LAY (n + x) = TL.getD x (0, 0)) : Call PG (d + 1) 3 [(2, ((n : Nat) : Int))] (I, R, n + 1, zz) = some (none, (I, up2 (up2 (up2 (up2 (up2 (up2 (up2 (up2 (up2 R n 4 (((n + 1 : Nat) : Int) + 1)) n 6 (((n + 2 : Nat) : Int) + 1)) n 7 (((n + 3 : Nat) : Int) + 1)) n 8 (((n + 4 : Nat) : Int) + 1)) n 9 (((n + 5 : Nat) : Int) + 1)) n 10 (((n + 6 : Nat) : Int) + 1)) n 11 (((n + 7 : Nat) : Int) + 1)) n 12 (((n + 8 : Nat) : Int) + 1)) n 14 (((n + 9 : Nat) : Int) + 1), n + 10, zz)) := by
  have l0 : (LAY n).1 = 3 := by rw [show LAY n = TL.getD 0 (0, 0) from hl 0 (by decide)]; rfl
  refine (show Call PG (d + 1) 3 [(2, ((n : Nat) : Int))] (I, R, n + 1, zz) = Run PG (Call PG d) 3 0 [(2, ((n : Nat) : Int))] [] (I, R, n + 1, zz) (0, 0) from rfl).trans ?_
  refine (CG_0 ..).trans (ite_t ⟨by decide, hl 1 (by decide), by decide, by decide⟩ (ite_t l0 ?_))
  refine (CG_13 ..).trans (ite_t ⟨by decide, hl 2 (by decide), by decide, by decide⟩ (ite_t l0 ?_))
  refine (CG_21 ..).trans (ite_t ⟨by decide, hl 3 (by decide), by decide, by decide⟩ (ite_t l0 ?_))
  refine (CG_29 ..).trans (ite_t ⟨by decide, hl 4 (by decide), by decide, by decide⟩ (ite_t l0 ?_))
  refine (CG_37 ..).trans (ite_t ⟨by decide, hl 5 (by decide), by decide, by decide⟩ (ite_t l0 ?_))
  refine (CG_45 ..).trans (ite_t ⟨by decide, hl 6 (by decide), by decide, by decide⟩ (ite_t l0 ?_))
  refine (CG_53 ..).trans (ite_t ⟨by decide, hl 7 (by decide), by decide, by decide⟩ (ite_t l0 ?_))
  refine (CG_61 ..).trans (ite_t ⟨by decide, hl 8 (by decide), by decide, by decide⟩ (ite_t l0 ?_))
  refine (CG_69 ..).trans (ite_t ⟨by decide, hl 9 (by decide), by decide, by decide⟩ (ite_t l0 ?_))
  exact CG_78 ..
section TC0
variable {d : Nat} {I : Nat → Nat → Int} {sp rt : Nat} {tt : Nat → Nat} {z : Zs} {n c : Nat}
theorem RF_new {k : Nat} (hk : n = 163 + 10 * k) : up2 (up2 (up2 (up2 (up2 (up2 (up2 (up2 (up2 (up2 (RF sp rt tt n) n 4 (((n + 1 : Nat) : Int) + 1)) n 6 (((n + 2 : Nat) : Int) + 1)) n 7 (((n + 3 : Nat) : Int) + 1)) n 8 (((n + 4 : Nat) : Int) + 1)) n 9 (((n + 5 : Nat) : Int) + 1)) n 10 (((n + 6 : Nat) : Int) + 1)) n 11 (((n + 7 : Nat) : Int) + 1)) n 12 (((n + 8 : Nat) : Int) + 1)) n 14 (((n + 9 : Nat) : Int) + 1)) 9 3 (((n : Nat) : Int) + 1) = RF (n + 1) rt tt (n + 10) := by
  funext a j
  by_cases c1 : a < 163
  · have e : up2 (up2 (up2 (up2 (up2 (up2 (up2 (up2 (up2 (up2 (RF sp rt tt n) n 4 (((n + 1 : Nat) : Int) + 1)) n 6 (((n + 2 : Nat) : Int) + 1)) n 7 (((n + 3 : Nat) : Int) + 1)) n 8 (((n + 4 : Nat) : Int) + 1)) n 9 (((n + 5 : Nat) : Int) + 1)) n 10 (((n + 6 : Nat) : Int) + 1)) n 11 (((n + 7 : Nat) : Int) + 1)) n 12 (((n + 8 : Nat) : Int) + 1)) n 14 (((n + 9 : Nat) : Int) + 1)) 9 3 (((n : Nat) : Int) + 1) a j = up2 (RF sp rt tt n) 9 3 (((n : Nat) : Int) + 1) a j := by
      simp only [up2_def]
      by_cases q : a = 9 ∧ j = 3
      · rw [if_pos q, if_pos q]
      · rw [if_neg q, if_neg q, if_neg (by omega), if_neg (by omega), if_neg (by omega), if_neg (by omega), if_neg (by omega), if_neg (by omega), if_neg (by omega), if_neg (by omega), if_neg (by omega)]
    rw [e, up2_def]
    unfold RF
    rw [if_pos c1, if_pos c1]
    by_cases q : a = 9 ∧ j = 3
    · rw [if_pos q, if_pos q]
      omega
    · rw [if_neg q, if_neg q, if_neg q]
  · have e9 : ∀ f : Nat → Nat → Int, up2 f 9 3 (((n : Nat) : Int) + 1) a j = f a j := fun f => up2_ne (by omega)
    rw [e9]
    by_cases c2 : a = n
    · subst c2
      have r : RF (a + 1) rt tt (a + 10) a j = if RTX.getD j 0 = 0 then 0 else ((a + RTX.getD j 0 : Nat) : Int) := by
        unfold RF
        rw [if_neg c1, if_pos (by omega), if_pos (by omega)]
      have r0 : RF sp rt tt a a j = 0 := by
        unfold RF
        rw [if_neg c1, if_neg (by omega)]
      rw [r]
      by_cases j14 : j = 14
      · subst j14; rw [up2_eq]; show _ = ((a + 10 : Nat) : Int); omega
      · rw [up2_nj j14]
        by_cases j12 : j = 12
        · subst j12; rw [up2_eq]; show _ = ((a + 9 : Nat) : Int); omega
        · rw [up2_nj j12]
          by_cases j11 : j = 11
          · subst j11; rw [up2_eq]; show _ = ((a + 8 : Nat) : Int); omega
          · rw [up2_nj j11]
            by_cases j10 : j = 10
            · subst j10; rw [up2_eq]; show _ = ((a + 7 : Nat) : Int); omega
            · rw [up2_nj j10]
              by_cases j9 : j = 9
              · subst j9; rw [up2_eq]; show _ = ((a + 6 : Nat) : Int); omega
              · rw [up2_nj j9]
                by_cases j8 : j = 8
                · subst j8; rw [up2_eq]; show _ = ((a + 5 : Nat) : Int); omega
                · rw [up2_nj j8]
                  by_cases j7 : j = 7
                  · subst j7; rw [up2_eq]; show _ = ((a + 4 : Nat) : Int); omega
                  · rw [up2_nj j7]
                    by_cases j6 : j = 6
                    · subst j6; rw [up2_eq]; show _ = ((a + 3 : Nat) : Int); omega
                    · rw [up2_nj j6]
                      by_cases j4 : j = 4
                      · subst j4; rw [up2_eq]; show _ = ((a + 2 : Nat) : Int); omega
                      · rw [up2_nj j4, r0]
                        have z : RTX.getD j 0 = 0 := by
                          have h17 : 17 ≤ j ∨ j = 0 ∨ j = 1 ∨ j = 2 ∨ j = 3 ∨ j = 5 ∨ j = 13 ∨ j = 15 ∨ j = 16 := by omega
                          rcases h17 with h | h | h | h | h | h | h | h | h
                          · unfold RTX
                            rw [List.getD_eq_getElem?_getD, List.getElem?_eq_none (by exact h)]
                            rfl
                          all_goals (subst h; rfl)
                        rw [if_pos z]
    · have e : ∀ (f : Nat → Nat → Int) (x : Nat) (y : Int), up2 f n x y a j = f a j := fun f x y => up2_ne c2
      rw [e, e, e, e, e, e, e, e, e]
      unfold RF
      rw [if_neg c1, if_neg c1]
      by_cases c3 : a < n
      · rw [if_pos c3, if_pos (show a < n + 10 by omega)]
      · rw [if_neg c3]
        by_cases c4 : a < n + 10
        · rw [if_pos c4, if_neg (by omega)]
        · rw [if_neg c4]
theorem RF_tt {T : Nat} (hc : c < 30) : up2 (RF sp rt tt n) 11 c (((T : Nat) : Int) + 1) = RF sp rt (fun j => if j = c then T + 1 else tt j) n := by
  funext a j
  rw [up2_def]
  by_cases q : a = 11 ∧ j = c
  · obtain ⟨rfl, rfl⟩ := q
    rw [if_pos ⟨rfl, rfl⟩]
    unfold RF
    rw [if_pos (by decide), if_neg (by omega), if_neg (by omega), if_pos rfl, if_pos hc]
    show ((T : Nat) : Int) + 1 = ((if j = j then T + 1 else tt j : Nat) : Int)
    rw [if_pos rfl]
    rfl
  · rw [if_neg q]
    unfold RF
    by_cases c1 : a < 163
    · rw [if_pos c1, if_pos c1]
      by_cases q1 : a = 9 ∧ j = 3
      · rw [if_pos q1, if_pos q1]
      · rw [if_neg q1, if_neg q1]
        by_cases q2 : a = 22 ∧ j = 0
        · rw [if_pos q2, if_pos q2]
        · rw [if_neg q2, if_neg q2]
          by_cases q3 : a = 11
          · have e : (fun j => if j = c then T + 1 else tt j) j = tt j := if_neg (fun e => q ⟨q3, e⟩)
            rw [if_pos q3, if_pos q3, e]
          · rw [if_neg q3, if_neg q3]
    · rw [if_neg c1, if_neg c1]
end TC0

