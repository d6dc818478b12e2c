/-! the law: a case, from both answers -/
section LT1
theorem LS_0 {C : Cal} {I I1 I2 : Nat → Nat → Int} {sp rt : Nat} {tt : Nat → Nat} {z : Zs} {g1 g2 : Nat} {i v : Int} (hi : 0 ≤ i ∧ i + 8 ≤ (z.2.1 : Int) ∧ (z.2.1 : Int) ≤ 4096) (hg : g1 ≤ 600000 ∧ g2 ≤ 7302249) (h1 : C 12 [(2, 0), (0, z.2.2 (i + 1).toNat)] (I, RF sp rt tt z.1, z) = some (some (0, v), (I1, RF sp rt tt z.1, z))) (h2 : C 208 [(2, 82), (0, z.2.2 (i + 1).toNat)] (I1, RF sp rt tt z.1, z) = some (some (0, v), (I2, RF sp rt tt z.1, z))) : Run PG C 345 272 [(4, 0), (2, 0), (2, 82), (0, i)] [] (I, RF sp rt tt z.1, z) (g1, g2) = Run PG C 345 2243 [(4, 0), (2, 0), (2, 82), (0, i)] [] (I2, RF sp rt tt z.1, z) (g1, g2) := by
  refine (T_345_272 ..).trans ?_
  simp only [show w32 (i + 1) = i + 1 from w32_of (by omega) (by omega)]
  refine ci_t ⟨by omega, by omega⟩ ?_
  refine (if_pos ⟨by omega, by omega⟩).trans ?_
  refine bd_t h1 ?_
  refine (T_345_281 ..).trans ?_
  simp only [show w32 (i + 1) = i + 1 from w32_of (by omega) (by omega)]
  refine ci_t ⟨by omega, by omega⟩ ?_
  refine (if_pos ⟨by omega, by omega⟩).trans ?_
  refine bd_t h2 ?_
  refine (T_345_290 ..).trans ?_
  exact ci_t rfl rfl
theorem LS_1 {C : Cal} {I I1 I2 : Nat → Nat → Int} {sp rt : Nat} {tt : Nat → Nat} {z : Zs} {g1 g2 : Nat} {i v : Int} (hi : 0 ≤ i ∧ i + 8 ≤ (z.2.1 : Int) ∧ (z.2.1 : Int) ≤ 4096) (hg : g1 ≤ 600000 ∧ g2 ≤ 7302249) (h1 : C 14 [(2, 0), (0, z.2.2 (i + 1).toNat), (0, z.2.2 (i + 2).toNat), (0, z.2.2 (i + 3).toNat), (0, z.2.2 (i + 4).toNat)] (I, RF sp rt tt z.1, z) = some (some (0, v), (I1, RF sp rt tt z.1, z))) (h2 : C 210 [(2, 82), (0, z.2.2 (i + 1).toNat), (0, z.2.2 (i + 2).toNat), (0, z.2.2 (i + 3).toNat), (0, z.2.2 (i + 4).toNat)] (I1, RF sp rt tt z.1, z) = some (some (0, v), (I2, RF sp rt tt z.1, z))) : Run PG C 345 295 [(4, 0), (2, 0), (2, 82), (0, i)] [] (I, RF sp rt tt z.1, z) (g1, g2) = Run PG C 345 2243 [(4, 0), (2, 0), (2, 82), (0, i)] [] (I2, RF sp rt tt z.1, z) (g1, g2) := by
  refine (T_345_295 ..).trans ?_
  simp only [show w32 (i + 1) = i + 1 from w32_of (by omega) (by omega), show w32 (i + 2) = i + 2 from w32_of (by omega) (by omega), show w32 (i + 3) = i + 3 from w32_of (by omega) (by omega), show w32 (i + 4) = i + 4 from w32_of (by omega) (by omega)]
  refine ci_t ⟨by omega, by omega⟩ ?_
  refine ci_t ⟨by omega, by omega⟩ ?_
  refine ci_t ⟨by omega, by omega⟩ ?_
  refine ci_t ⟨by omega, by omega⟩ ?_
  refine (if_pos ⟨by omega, by omega⟩).trans ?_
  refine bd_t h1 ?_
  refine (T_345_319 ..).trans ?_
  simp only [show w32 (i + 1) = i + 1 from w32_of (by omega) (by omega), show w32 (i + 2) = i + 2 from w32_of (by omega) (by omega), show w32 (i + 3) = i + 3 from w32_of (by omega) (by omega), show w32 (i + 4) = i + 4 from w32_of (by omega) (by omega)]
  refine ci_t ⟨by omega, by omega⟩ ?_
  refine ci_t ⟨by omega, by omega⟩ ?_
  refine ci_t ⟨by omega, by omega⟩ ?_
  refine ci_t ⟨by omega, by omega⟩ ?_
  refine (if_pos ⟨by omega, by omega⟩).trans ?_
  refine bd_t h2 ?_
  refine (T_345_343 ..).trans ?_
  exact ci_t rfl rfl
theorem LS_2 {C : Cal} {I I1 I2 : Nat → Nat → Int} {sp rt : Nat} {tt : Nat → Nat} {z : Zs} {g1 g2 : Nat} {i v : Int} (hi : 0 ≤ i ∧ i + 8 ≤ (z.2.1 : Int) ∧ (z.2.1 : Int) ≤ 4096) (hg : g1 ≤ 600000 ∧ g2 ≤ 7302249) (h1 : C 16 [(2, 0), (0, z.2.2 (i + 1).toNat), (0, z.2.2 (i + 2).toNat), (0, z.2.2 (i + 3).toNat)] (I, RF sp rt tt z.1, z) = some (some (0, v), (I1, RF sp rt tt z.1, z))) (h2 : C 211 [(2, 82), (0, z.2.2 (i + 1).toNat), (0, z.2.2 (i + 2).toNat), (0, z.2.2 (i + 3).toNat)] (I1, RF sp rt tt z.1, z) = some (some (0, v), (I2, RF sp rt tt z.1, z))) : Run PG C 345 348 [(4, 0), (2, 0), (2, 82), (0, i)] [] (I, RF sp rt tt z.1, z) (g1, g2) = Run PG C 345 2243 [(4, 0), (2, 0), (2, 82), (0, i)] [] (I2, RF sp rt tt z.1, z) (g1, g2) := by
  refine (T_345_348 ..).trans ?_
  simp only [show w32 (i + 1) = i + 1 from w32_of (by omega) (by omega), show w32 (i + 2) = i + 2 from w32_of (by omega) (by omega), show w32 (i + 3) = i + 3 from w32_of (by omega) (by omega)]
  refine ci_t ⟨by omega, by omega⟩ ?_
  refine ci_t ⟨by omega, by omega⟩ ?_
  refine ci_t ⟨by omega, by omega⟩ ?_
  refine (if_pos ⟨by omega, by omega⟩).trans ?_
  refine bd_t h1 ?_
  refine (T_345_367 ..).trans ?_
  simp only [show w32 (i + 1) = i + 1 from w32_of (by omega) (by omega), show w32 (i + 2) = i + 2 from w32_of (by omega) (by omega), show w32 (i + 3) = i + 3 from w32_of (by omega) (by omega)]
  refine ci_t ⟨by omega, by omega⟩ ?_
  refine ci_t ⟨by omega, by omega⟩ ?_
  refine ci_t ⟨by omega, by omega⟩ ?_
  refine (if_pos ⟨by omega, by omega⟩).trans ?_
  refine bd_t h2 ?_
  refine (T_345_386 ..).trans ?_
  exact ci_t rfl rfl
theorem LS_3 {C : Cal} {I I1 I2 : Nat → Nat → Int} {sp rt : Nat} {tt : Nat → Nat} {z : Zs} {g1 g2 : Nat} {i v : Int} (hi : 0 ≤ i ∧ i + 8 ≤ (z.2.1 : Int) ∧ (z.2.1 : Int) ≤ 4096) (hg : g1 ≤ 600000 ∧ g2 ≤ 7302249) (h1 : C 19 [(2, 0), (0, z.2.2 (i + 1).toNat), (0, z.2.2 (i + 2).toNat)] (I, RF sp rt tt z.1, z) = some (some (0, v), (I1, RF sp rt tt z.1, z))) (h2 : C 213 [(2, 82), (0, z.2.2 (i + 1).toNat), (0, z.2.2 (i + 2).toNat)] (I1, RF sp rt tt z.1, z) = some (some (0, v), (I2, RF sp rt tt z.1, z))) : Run PG C 345 391 [(4, 0), (2, 0), (2, 82), (0, i)] [] (I, RF sp rt tt z.1, z) (g1, g2) = Run PG C 345 2243 [(4, 0), (2, 0), (2, 82), (0, i)] [] (I2, RF sp rt tt z.1, z) (g1, g2) := by
  refine (T_345_391 ..).trans ?_
  simp only [show w32 (i + 1) = i + 1 from w32_of (by omega) (by omega), show w32 (i + 2) = i + 2 from w32_of (by omega) (by omega)]
  refine ci_t ⟨by omega, by omega⟩ ?_
  refine ci_t ⟨by omega, by omega⟩ ?_
  refine (if_pos ⟨by omega, by omega⟩).trans ?_
  refine bd_t h1 ?_
  refine (T_345_405 ..).trans ?_
  simp only [show w32 (i + 1) = i + 1 from w32_of (by omega) (by omega), show w32 (i + 2) = i + 2 from w32_of (by omega) (by omega)]
  refine ci_t ⟨by omega, by omega⟩ ?_
  refine ci_t ⟨by omega, by omega⟩ ?_
  refine (if_pos ⟨by omega, by omega⟩).trans ?_
  refine bd_t h2 ?_
  refine (T_345_419 ..).trans ?_
  exact ci_t rfl rfl
theorem LS_4 {C : Cal} {I I1 I2 : Nat → Nat → Int} {sp rt : Nat} {tt : Nat → Nat} {z : Zs} {g1 g2 : Nat} {i v : Int} (hi : 0 ≤ i ∧ i + 8 ≤ (z.2.1 : Int) ∧ (z.2.1 : Int) ≤ 4096) (hg : g1 ≤ 600000 ∧ g2 ≤ 7302249) (h1 : C 21 [(2, 0), (0, z.2.2 (i + 1).toNat), (0, z.2.2 (i + 2).toNat), (0, z.2.2 (i + 3).toNat), (0, z.2.2 (i + 4).toNat), (0, z.2.2 (i + 5).toNat)] (I, RF sp rt tt z.1, z) = some (some (0, v), (I1, RF sp rt tt z.1, z))) (h2 : C 214 [(2, 82), (0, z.2.2 (i + 1).toNat), (0, z.2.2 (i + 2).toNat), (0, z.2.2 (i + 3).toNat), (0, z.2.2 (i + 4).toNat), (0, z.2.2 (i + 5).toNat)] (I1, RF sp rt tt z.1, z) = some (some (0, v), (I2, RF sp rt tt z.1, z))) : Run PG C 345 424 [(4, 0), (2, 0), (2, 82), (0, i)] [] (I, RF sp rt tt z.1, z) (g1, g2) = Run PG C 345 2243 [(4, 0), (2, 0), (2, 82), (0, i)] [] (I2, RF sp rt tt z.1, z) (g1, g2) := by
  refine (T_345_424 ..).trans ?_
  simp only [show w32 (i + 1) = i + 1 from w32_of (by omega) (by omega), show w32 (i + 2) = i + 2 from w32_of (by omega) (by omega), show w32 (i + 3) = i + 3 from w32_of (by omega) (by omega), show w32 (i + 4) = i + 4 from w32_of (by omega) (by omega), show w32 (i + 5) = i + 5 from w32_of (by omega) (by omega)]
  refine ci_t ⟨by omega, by omega⟩ ?_
  refine ci_t ⟨by omega, by omega⟩ ?_
  refine ci_t ⟨by omega, by omega⟩ ?_
  refine ci_t ⟨by omega, by omega⟩ ?_
  refine ci_t ⟨by omega, by omega⟩ ?_
  refine (if_pos ⟨by omega, by omega⟩).trans ?_
  refine bd_t h1 ?_
  refine (T_345_453 ..).trans ?_
  simp only [show w32 (i + 1) = i + 1 from w32_of (by omega) (by omega), show w32 (i + 2) = i + 2 from w32_of (by omega) (by omega), show w32 (i + 3) = i + 3 from w32_of (by omega) (by omega), show w32 (i + 4) = i + 4 from w32_of (by omega) (by omega), show w32 (i + 5) = i + 5 from w32_of (by omega) (by omega)]
  refine ci_t ⟨by omega, by omega⟩ ?_
  refine ci_t ⟨by omega, by omega⟩ ?_
  refine ci_t ⟨by omega, by omega⟩ ?_
  refine ci_t ⟨by omega, by omega⟩ ?_
  refine ci_t ⟨by omega, by omega⟩ ?_
  refine (if_pos ⟨by omega, by omega⟩).trans ?_
  refine bd_t h2 ?_
  refine (T_345_482 ..).trans ?_
  exact ci_t rfl rfl
theorem LS_5 {C : Cal} {I I1 I2 : Nat → Nat → Int} {sp rt : Nat} {tt : Nat → Nat} {z : Zs} {g1 g2 : Nat} {i v : Int} {sp1 rt1 n1 : Nat} {tt1 : Nat → Nat} (hi : 0 ≤ i ∧ i + 8 ≤ (z.2.1 : Int) ∧ (z.2.1 : Int) ≤ 4096) (hg : g1 + 10 ≤ 600000 ∧ g2 + 421 ≤ 7302249) (h1 : C 23 [(2, 0), (0, z.2.2 (i + 1).toNat), (0, z.2.2 (i + 2).toNat), (0, z.2.2 (i + 3).toNat), (0, z.2.2 (i + 4).toNat)] (I, RF sp rt tt z.1, z) = some (some (0, v), (I1, RF sp1 rt1 tt1 n1, (n1, z.2)))) (h2 : C 216 [(2, 82), (0, z.2.2 (i + 1).toNat), (0, z.2.2 (i + 2).toNat), (0, z.2.2 (i + 3).toNat), (0, z.2.2 (i + 4).toNat)] (I1, RF sp1 rt1 tt1 n1, (n1, z.2)) = some (some (0, v), (I2, RF sp1 rt1 tt1 n1, (n1, z.2)))) : Run PG C 345 487 [(4, 0), (2, 0), (2, 82), (0, i)] [] (I, RF sp rt tt z.1, z) (g1, g2) = Run PG C 345 2243 [(4, 0), (2, 0), (2, 82), (0, i)] [] (I2, RF sp1 rt1 tt1 n1, (n1, z.2)) (g1 + 10, g2 + 421) := by
  refine (T_345_487 ..).trans ?_
  simp only [show w32 (i + 1) = i + 1 from w32_of (by omega) (by omega), show w32 (i + 2) = i + 2 from w32_of (by omega) (by omega), show w32 (i + 3) = i + 3 from w32_of (by omega) (by omega), show w32 (i + 4) = i + 4 from w32_of (by omega) (by omega)]
  refine ci_t ⟨by omega, by omega⟩ ?_
  refine ci_t ⟨by omega, by omega⟩ ?_
  refine ci_t ⟨by omega, by omega⟩ ?_
  refine ci_t ⟨by omega, by omega⟩ ?_
  refine (if_pos ⟨by omega, by omega⟩).trans ?_
  refine bd_t h1 ?_
  refine (T_345_511 (z := (n1, z.2)) ..).trans ?_
  simp only [show w32 (i + 1) = i + 1 from w32_of (by omega) (by omega), show w32 (i + 2) = i + 2 from w32_of (by omega) (by omega), show w32 (i + 3) = i + 3 from w32_of (by omega) (by omega), show w32 (i + 4) = i + 4 from w32_of (by omega) (by omega)]
  refine ci_t ⟨by omega, by omega⟩ ?_
  refine ci_t ⟨by omega, by omega⟩ ?_
  refine ci_t ⟨by omega, by omega⟩ ?_
  refine ci_t ⟨by omega, by omega⟩ ?_
  refine (if_pos ⟨by omega, by omega⟩).trans ?_
  refine bd_t h2 ?_
  refine (T_345_535 (z := (n1, z.2)) ..).trans ?_
  exact ci_t rfl rfl
theorem LS_6 {C : Cal} {I I1 I2 : Nat → Nat → Int} {sp rt : Nat} {tt : Nat → Nat} {z : Zs} {g1 g2 : Nat} {i v : Int} (hi : 0 ≤ i ∧ i + 8 ≤ (z.2.1 : Int) ∧ (z.2.1 : Int) ≤ 4096) (hg : g1 ≤ 600000 ∧ g2 ≤ 7302249) (h1 : C 45 [(2, 0), (0, z.2.2 (i + 1).toNat), (0, z.2.2 (i + 2).toNat)] (I, RF sp rt tt z.1, z) = some (some (0, v), (I1, RF sp rt tt z.1, z))) (h2 : C 240 [(2, 82), (0, z.2.2 (i + 1).toNat), (0, z.2.2 (i + 2).toNat)] (I1, RF sp rt tt z.1, z) = some (some (0, v), (I2, RF sp rt tt z.1, z))) : Run PG C 345 540 [(4, 0), (2, 0), (2, 82), (0, i)] [] (I, RF sp rt tt z.1, z) (g1, g2) = Run PG C 345 2243 [(4, 0), (2, 0), (2, 82), (0, i)] [] (I2, RF sp rt tt z.1, z) (g1, g2) := by
  refine (T_345_540 ..).trans ?_
  simp only [show w32 (i + 1) = i + 1 from w32_of (by omega) (by omega), show w32 (i + 2) = i + 2 from w32_of (by omega) (by omega)]
  refine ci_t ⟨by omega, by omega⟩ ?_
  refine ci_t ⟨by omega, by omega⟩ ?_
  refine (if_pos ⟨by omega, by omega⟩).trans ?_
  refine bd_t h1 ?_
  refine (T_345_554 ..).trans ?_
  simp only [show w32 (i + 1) = i + 1 from w32_of (by omega) (by omega), show w32 (i + 2) = i + 2 from w32_of (by omega) (by omega)]
  refine ci_t ⟨by omega, by omega⟩ ?_
  refine ci_t ⟨by omega, by omega⟩ ?_
  refine (if_pos ⟨by omega, by omega⟩).trans ?_
  refine bd_t h2 ?_
  refine (T_345_568 ..).trans ?_
  exact ci_t rfl rfl
theorem LS_7 {C : Cal} {I I1 I2 : Nat → Nat → Int} {sp rt : Nat} {tt : Nat → Nat} {z : Zs} {g1 g2 : Nat} {i v : Int} (hi : 0 ≤ i ∧ i + 8 ≤ (z.2.1 : Int) ∧ (z.2.1 : Int) ≤ 4096) (hg : g1 ≤ 600000 ∧ g2 ≤ 7302249) (h1 : C 54 [(2, 0), (0, z.2.2 (i + 1).toNat), (0, z.2.2 (i + 2).toNat), (0, z.2.2 (i + 3).toNat)] (I, RF sp rt tt z.1, z) = some (some (0, v), (I1, RF sp rt tt z.1, z))) (h2 : C 246 [(2, 82), (0, z.2.2 (i + 1).toNat), (0, z.2.2 (i + 2).toNat), (0, z.2.2 (i + 3).toNat)] (I1, RF sp rt tt z.1, z) = some (some (0, v), (I2, RF sp rt tt z.1, z))) : Run PG C 345 573 [(4, 0), (2, 0), (2, 82), (0, i)] [] (I, RF sp rt tt z.1, z) (g1, g2) = Run PG C 345 2243 [(4, 0), (2, 0), (2, 82), (0, i)] [] (I2, RF sp rt tt z.1, z) (g1, g2) := by
  refine (T_345_573 ..).trans ?_
  simp only [show w32 (i + 1) = i + 1 from w32_of (by omega) (by omega), show w32 (i + 2) = i + 2 from w32_of (by omega) (by omega), show w32 (i + 3) = i + 3 from w32_of (by omega) (by omega)]
  refine ci_t ⟨by omega, by omega⟩ ?_
  refine ci_t ⟨by omega, by omega⟩ ?_
  refine ci_t ⟨by omega, by omega⟩ ?_
  refine (if_pos ⟨by omega, by omega⟩).trans ?_
  refine bd_t h1 ?_
  refine (T_345_592 ..).trans ?_
  simp only [show w32 (i + 1) = i + 1 from w32_of (by omega) (by omega), show w32 (i + 2) = i + 2 from w32_of (by omega) (by omega), show w32 (i + 3) = i + 3 from w32_of (by omega) (by omega)]
  refine ci_t ⟨by omega, by omega⟩ ?_
  refine ci_t ⟨by omega, by omega⟩ ?_
  refine ci_t ⟨by omega, by omega⟩ ?_
  refine (if_pos ⟨by omega, by omega⟩).trans ?_
  refine bd_t h2 ?_
  refine (T_345_611 ..).trans ?_
  exact ci_t rfl rfl
theorem LS_8 {C : Cal} {I I1 I2 : Nat → Nat → Int} {sp rt : Nat} {tt : Nat → Nat} {z : Zs} {g1 g2 : Nat} {i v : Int} (hi : 0 ≤ i ∧ i + 8 ≤ (z.2.1 : Int) ∧ (z.2.1 : Int) ≤ 4096) (hg : g1 ≤ 600000 ∧ g2 ≤ 7302249) (h1 : C 83 [(2, 0), (0, z.2.2 (i + 1).toNat)] (I, RF sp rt tt z.1, z) = some (some (0, v), (I1, RF sp rt tt z.1, z))) (h2 : C 276 [(2, 82), (0, z.2.2 (i + 1).toNat)] (I1, RF sp rt tt z.1, z) = some (some (0, v), (I2, RF sp rt tt z.1, z))) : Run PG C 345 616 [(4, 0), (2, 0), (2, 82), (0, i)] [] (I, RF sp rt tt z.1, z) (g1, g2) = Run PG C 345 2243 [(4, 0), (2, 0), (2, 82), (0, i)] [] (I2, RF sp rt tt z.1, z) (g1, g2) := by
  refine (T_345_616 ..).trans ?_
  simp only [show w32 (i + 1) = i + 1 from w32_of (by omega) (by omega)]
  refine ci_t ⟨by omega, by omega⟩ ?_
  refine (if_pos ⟨by omega, by omega⟩).trans ?_
  refine bd_t h1 ?_
  refine (T_345_625 ..).trans ?_
  simp only [show w32 (i + 1) = i + 1 from w32_of (by omega) (by omega)]
  refine ci_t ⟨by omega, by omega⟩ ?_
  refine (if_pos ⟨by omega, by omega⟩).trans ?_
  refine bd_t h2 ?_
  refine (T_345_634 ..).trans ?_
  exact ci_t rfl rfl
theorem LS_9 {C : Cal} {I I1 I2 : Nat → Nat → Int} {sp rt : Nat} {tt : Nat → Nat} {z : Zs} {g1 g2 : Nat} {i v : Int} (hi : 0 ≤ i ∧ i + 8 ≤ (z.2.1 : Int) ∧ (z.2.1 : Int) ≤ 4096) (hg : g1 ≤ 600000 ∧ g2 ≤ 7302249) (h1 : C 87 [(2, 0), (0, z.2.2 (i + 1).toNat), (0, z.2.2 (i + 2).toNat), (0, z.2.2 (i + 3).toNat)] (I, RF sp rt tt z.1, z) = some (some (0, v), (I1, RF sp rt tt z.1, z))) (h2 : C 278 [(2, 82), (0, z.2.2 (i + 1).toNat), (0, z.2.2 (i + 2).toNat), (0, z.2.2 (i + 3).toNat)] (I1, RF sp rt tt z.1, z) = some (some (0, v), (I2, RF sp rt tt z.1, z))) : Run PG C 345 639 [(4, 0), (2, 0), (2, 82), (0, i)] [] (I, RF sp rt tt z.1, z) (g1, g2) = Run PG C 345 2243 [(4, 0), (2, 0), (2, 82), (0, i)] [] (I2, RF sp rt tt z.1, z) (g1, g2) := by
  refine (T_345_639 ..).trans ?_
  simp only [show w32 (i + 1) = i + 1 from w32_of (by omega) (by omega), show w32 (i + 2) = i + 2 from w32_of (by omega) (by omega), show w32 (i + 3) = i + 3 from w32_of (by omega) (by omega)]
  refine ci_t ⟨by omega, by omega⟩ ?_
  refine ci_t ⟨by omega, by omega⟩ ?_
  refine ci_t ⟨by omega, by omega⟩ ?_
  refine (if_pos ⟨by omega, by omega⟩).trans ?_
  refine bd_t h1 ?_
  refine (T_345_658 ..).trans ?_
  simp only [show w32 (i + 1) = i + 1 from w32_of (by omega) (by omega), show w32 (i + 2) = i + 2 from w32_of (by omega) (by omega), show w32 (i + 3) = i + 3 from w32_of (by omega) (by omega)]
  refine ci_t ⟨by omega, by omega⟩ ?_
  refine ci_t ⟨by omega, by omega⟩ ?_
  refine ci_t ⟨by omega, by omega⟩ ?_
  refine (if_pos ⟨by omega, by omega⟩).trans ?_
  refine bd_t h2 ?_
  refine (T_345_677 ..).trans ?_
  exact ci_t rfl rfl
theorem LS_10 {C : Cal} {I I1 I2 : Nat → Nat → Int} {sp rt : Nat} {tt : Nat → Nat} {z : Zs} {g1 g2 : Nat} {i v : Int} (hi : 0 ≤ i ∧ i + 8 ≤ (z.2.1 : Int) ∧ (z.2.1 : Int) ≤ 4096) (hg : g1 ≤ 600000 ∧ g2 ≤ 7302249) (h1 : C 90 [(2, 0), (0, z.2.2 (i + 1).toNat)] (I, RF sp rt tt z.1, z) = some (some (1, v), (I1, RF sp rt tt z.1, z))) (h2 : C 279 [(2, 82), (0, z.2.2 (i + 1).toNat)] (I1, RF sp rt tt z.1, z) = some (some (1, v), (I2, RF sp rt tt z.1, z))) : Run PG C 345 682 [(4, 0), (2, 0), (2, 82), (0, i)] [] (I, RF sp rt tt z.1, z) (g1, g2) = Run PG C 345 2243 [(4, 0), (2, 0), (2, 82), (0, i)] [] (I2, RF sp rt tt z.1, z) (g1, g2) := by
  refine (T_345_682 ..).trans ?_
  simp only [show w32 (i + 1) = i + 1 from w32_of (by omega) (by omega)]
  refine ci_t ⟨by omega, by omega⟩ ?_
  refine (if_pos ⟨by omega, by omega⟩).trans ?_
  refine bd_t h1 ?_
  refine (T_345_691 ..).trans ?_
  simp only [show w32 (i + 1) = i + 1 from w32_of (by omega) (by omega)]
  refine ci_t ⟨by omega, by omega⟩ ?_
  refine (if_pos ⟨by omega, by omega⟩).trans ?_
  refine bd_t h2 ?_
  refine (T_345_700 ..).trans ?_
  exact ci_t (by unfold lcm; rw [if_neg (Int.lt_irrefl _), if_pos rfl]) rfl
theorem LS_11 {C : Cal} {I I1 I2 : Nat → Nat → Int} {sp rt : Nat} {tt : Nat → Nat} {z : Zs} {g1 g2 : Nat} {i v : Int} (hi : 0 ≤ i ∧ i + 8 ≤ (z.2.1 : Int) ∧ (z.2.1 : Int) ≤ 4096) (hg : g1 ≤ 600000 ∧ g2 ≤ 7302249) (h1 : C 93 [(2, 0), (0, z.2.2 (i + 1).toNat)] (I, RF sp rt tt z.1, z) = some (some (0, v), (I1, RF sp rt tt z.1, z))) (h2 : C 281 [(2, 82), (0, z.2.2 (i + 1).toNat)] (I1, RF sp rt tt z.1, z) = some (some (0, v), (I2, RF sp rt tt z.1, z))) : Run PG C 345 706 [(4, 0), (2, 0), (2, 82), (0, i)] [] (I, RF sp rt tt z.1, z) (g1, g2) = Run PG C 345 2243 [(4, 0), (2, 0), (2, 82), (0, i)] [] (I2, RF sp rt tt z.1, z) (g1, g2) := by
  refine (T_345_706 ..).trans ?_
  simp only [show w32 (i + 1) = i + 1 from w32_of (by omega) (by omega)]
  refine ci_t ⟨by omega, by omega⟩ ?_
  refine (if_pos ⟨by omega, by omega⟩).trans ?_
  refine bd_t h1 ?_
  refine (T_345_715 ..).trans ?_
  simp only [show w32 (i + 1) = i + 1 from w32_of (by omega) (by omega)]
  refine ci_t ⟨by omega, by omega⟩ ?_
  refine (if_pos ⟨by omega, by omega⟩).trans ?_
  refine bd_t h2 ?_
  refine (T_345_724 ..).trans ?_
  exact ci_t rfl rfl
theorem LS_12 {C : Cal} {I I1 I2 : Nat → Nat → Int} {sp rt : Nat} {tt : Nat → Nat} {z : Zs} {g1 g2 : Nat} {i v : Int} (hi : 0 ≤ i ∧ i + 8 ≤ (z.2.1 : Int) ∧ (z.2.1 : Int) ≤ 4096) (hg : g1 ≤ 600000 ∧ g2 ≤ 7302249) (h1 : C 98 [(2, 0), (0, z.2.2 (i + 1).toNat)] (I, RF sp rt tt z.1, z) = some (some (0, v), (I1, RF sp rt tt z.1, z))) (h2 : C 284 [(2, 82), (0, z.2.2 (i + 1).toNat)] (I1, RF sp rt tt z.1, z) = some (some (0, v), (I2, RF sp rt tt z.1, z))) : Run PG C 345 729 [(4, 0), (2, 0), (2, 82), (0, i)] [] (I, RF sp rt tt z.1, z) (g1, g2) = Run PG C 345 2243 [(4, 0), (2, 0), (2, 82), (0, i)] [] (I2, RF sp rt tt z.1, z) (g1, g2) := by
  refine (T_345_729 ..).trans ?_
  simp only [show w32 (i + 1) = i + 1 from w32_of (by omega) (by omega)]
  refine ci_t ⟨by omega, by omega⟩ ?_
  refine (if_pos ⟨by omega, by omega⟩).trans ?_
  refine bd_t h1 ?_
  refine (T_345_738 ..).trans ?_
  simp only [show w32 (i + 1) = i + 1 from w32_of (by omega) (by omega)]
  refine ci_t ⟨by omega, by omega⟩ ?_
  refine (if_pos ⟨by omega, by omega⟩).trans ?_
  refine bd_t h2 ?_
  refine (T_345_747 ..).trans ?_
  exact ci_t rfl rfl
theorem LS_13 {C : Cal} {I I1 I2 : Nat → Nat → Int} {sp rt : Nat} {tt : Nat → Nat} {z : Zs} {g1 g2 : Nat} {i v : Int} {b : Int} (hb : (z.2.2 (i + 4).toNat = 0 ∧ b = 0) ∨ (¬ z.2.2 (i + 4).toNat = 0 ∧ b = 1)) (hi : 0 ≤ i ∧ i + 8 ≤ (z.2.1 : Int) ∧ (z.2.1 : Int) ≤ 4096) (hg : g1 ≤ 600000 ∧ g2 ≤ 7302249) (h1 : C 100 [(2, 0), (0, z.2.2 (i + 1).toNat), (0, z.2.2 (i + 2).toNat), (0, z.2.2 (i + 3).toNat), (0, b)] (I, RF sp rt tt z.1, z) = some (some (0, v), (I1, RF sp rt tt z.1, z))) (h2 : C 285 [(2, 82), (0, z.2.2 (i + 1).toNat), (0, z.2.2 (i + 2).toNat), (0, z.2.2 (i + 3).toNat), (0, b)] (I1, RF sp rt tt z.1, z) = some (some (0, v), (I2, RF sp rt tt z.1, z))) : Run PG C 345 752 [(4, 0), (2, 0), (2, 82), (0, i)] [] (I, RF sp rt tt z.1, z) (g1, g2) = Run PG C 345 2243 [(4, 0), (2, 0), (2, 82), (0, i)] [] (I2, RF sp rt tt z.1, z) (g1, g2) := by
  rcases hb with ⟨e, rfl⟩ | ⟨e, rfl⟩
  · refine (T_345_752 ..).trans ?_
    simp only [show w32 (i + 1) = i + 1 from w32_of (by omega) (by omega), show w32 (i + 2) = i + 2 from w32_of (by omega) (by omega), show w32 (i + 3) = i + 3 from w32_of (by omega) (by omega), show w32 (i + 4) = i + 4 from w32_of (by omega) (by omega)]
    refine ci_t ⟨by omega, by omega⟩ ?_
    refine ci_t ⟨by omega, by omega⟩ ?_
    refine ci_t ⟨by omega, by omega⟩ ?_
    refine ci_t ⟨by omega, by omega⟩ ?_
    refine ci_t e ?_
    refine (if_pos ⟨by omega, by omega⟩).trans ?_
    refine bd_t h1 ?_
    refine (T_345_784 ..).trans ?_
    simp only [show w32 (i + 1) = i + 1 from w32_of (by omega) (by omega), show w32 (i + 2) = i + 2 from w32_of (by omega) (by omega), show w32 (i + 3) = i + 3 from w32_of (by omega) (by omega), show w32 (i + 4) = i + 4 from w32_of (by omega) (by omega)]
    refine ci_t ⟨by omega, by omega⟩ ?_
    refine ci_t ⟨by omega, by omega⟩ ?_
    refine ci_t ⟨by omega, by omega⟩ ?_
    refine ci_t ⟨by omega, by omega⟩ ?_
    refine ci_t e ?_
    refine (if_pos ⟨by omega, by omega⟩).trans ?_
    refine bd_t h2 ?_
    refine (T_345_816 ..).trans ?_
    exact ci_t rfl rfl
  · refine (T_345_752 ..).trans ?_
    simp only [show w32 (i + 1) = i + 1 from w32_of (by omega) (by omega), show w32 (i + 2) = i + 2 from w32_of (by omega) (by omega), show w32 (i + 3) = i + 3 from w32_of (by omega) (by omega), show w32 (i + 4) = i + 4 from w32_of (by omega) (by omega)]
    refine ci_t ⟨by omega, by omega⟩ ?_
    refine ci_t ⟨by omega, by omega⟩ ?_
    refine ci_t ⟨by omega, by omega⟩ ?_
    refine ci_t ⟨by omega, by omega⟩ ?_
    refine ci_f e ?_
    refine (if_pos ⟨by omega, by omega⟩).trans ?_
    refine bd_t h1 ?_
    refine (T_345_784 ..).trans ?_
    simp only [show w32 (i + 1) = i + 1 from w32_of (by omega) (by omega), show w32 (i + 2) = i + 2 from w32_of (by omega) (by omega), show w32 (i + 3) = i + 3 from w32_of (by omega) (by omega), show w32 (i + 4) = i + 4 from w32_of (by omega) (by omega)]
    refine ci_t ⟨by omega, by omega⟩ ?_
    refine ci_t ⟨by omega, by omega⟩ ?_
    refine ci_t ⟨by omega, by omega⟩ ?_
    refine ci_t ⟨by omega, by omega⟩ ?_
    refine ci_f e ?_
    refine (if_pos ⟨by omega, by omega⟩).trans ?_
    refine bd_t h2 ?_
    refine (T_345_816 ..).trans ?_
    exact ci_t rfl rfl
theorem LS_14 {C : Cal} {I I1 I2 : Nat → Nat → Int} {sp rt : Nat} {tt : Nat → Nat} {z : Zs} {g1 g2 : Nat} {i v : Int} {b : Int} (hb : (z.2.2 (i + 2).toNat = 0 ∧ b = 0) ∨ (¬ z.2.2 (i + 2).toNat = 0 ∧ b = 1)) (hi : 0 ≤ i ∧ i + 8 ≤ (z.2.1 : Int) ∧ (z.2.1 : Int) ≤ 4096) (hg : g1 ≤ 600000 ∧ g2 ≤ 7302249) (h1 : C 106 [(2, 0), (0, z.2.2 (i + 1).toNat), (0, b)] (I, RF sp rt tt z.1, z) = some (some (0, v), (I1, RF sp rt tt z.1, z))) (h2 : C 287 [(2, 82), (0, z.2.2 (i + 1).toNat), (0, b)] (I1, RF sp rt tt z.1, z) = some (some (0, v), (I2, RF sp rt tt z.1, z))) : Run PG C 345 821 [(4, 0), (2, 0), (2, 82), (0, i)] [] (I, RF sp rt tt z.1, z) (g1, g2) = Run PG C 345 2243 [(4, 0), (2, 0), (2, 82), (0, i)] [] (I2, RF sp rt tt z.1, z) (g1, g2) := by
  rcases hb with ⟨e, rfl⟩ | ⟨e, rfl⟩
  · refine (T_345_821 ..).trans ?_
    simp only [show w32 (i + 1) = i + 1 from w32_of (by omega) (by omega), show w32 (i + 2) = i + 2 from w32_of (by omega) (by omega)]
    refine ci_t ⟨by omega, by omega⟩ ?_
    refine ci_t ⟨by omega, by omega⟩ ?_
    refine ci_t e ?_
    refine (if_pos ⟨by omega, by omega⟩).trans ?_
    refine bd_t h1 ?_
    refine (T_345_843 ..).trans ?_
    simp only [show w32 (i + 1) = i + 1 from w32_of (by omega) (by omega), show w32 (i + 2) = i + 2 from w32_of (by omega) (by omega)]
    refine ci_t ⟨by omega, by omega⟩ ?_
    refine ci_t ⟨by omega, by omega⟩ ?_
    refine ci_t e ?_
    refine (if_pos ⟨by omega, by omega⟩).trans ?_
    refine bd_t h2 ?_
    refine (T_345_865 ..).trans ?_
    exact ci_t rfl rfl
  · refine (T_345_821 ..).trans ?_
    simp only [show w32 (i + 1) = i + 1 from w32_of (by omega) (by omega), show w32 (i + 2) = i + 2 from w32_of (by omega) (by omega)]
    refine ci_t ⟨by omega, by omega⟩ ?_
    refine ci_t ⟨by omega, by omega⟩ ?_
    refine ci_f e ?_
    refine (if_pos ⟨by omega, by omega⟩).trans ?_
    refine bd_t h1 ?_
    refine (T_345_843 ..).trans ?_
    simp only [show w32 (i + 1) = i + 1 from w32_of (by omega) (by omega), show w32 (i + 2) = i + 2 from w32_of (by omega) (by omega)]
    refine ci_t ⟨by omega, by omega⟩ ?_
    refine ci_t ⟨by omega, by omega⟩ ?_
    refine ci_f e ?_
    refine (if_pos ⟨by omega, by omega⟩).trans ?_
    refine bd_t h2 ?_
    refine (T_345_865 ..).trans ?_
    exact ci_t rfl rfl
theorem LS_15 {C : Cal} {I I1 I2 : Nat → Nat → Int} {sp rt : Nat} {tt : Nat → Nat} {z : Zs} {g1 g2 : Nat} {i v : Int} (hi : 0 ≤ i ∧ i + 8 ≤ (z.2.1 : Int) ∧ (z.2.1 : Int) ≤ 4096) (hg : g1 ≤ 600000 ∧ g2 ≤ 7302249) (h1 : C 110 [(2, 0), (0, z.2.2 (i + 1).toNat), (0, z.2.2 (i + 2).toNat), (0, z.2.2 (i + 3).toNat), (0, z.2.2 (i + 4).toNat)] (I, RF sp rt tt z.1, z) = some (some (0, v), (I1, RF sp rt tt z.1, z))) (h2 : C 289 [(2, 82), (0, z.2.2 (i + 1).toNat), (0, z.2.2 (i + 2).toNat), (0, z.2.2 (i + 3).toNat), (0, z.2.2 (i + 4).toNat)] (I1, RF sp rt tt z.1, z) = some (some (0, v), (I2, RF sp rt tt z.1, z))) : Run PG C 345 870 [(4, 0), (2, 0), (2, 82), (0, i)] [] (I, RF sp rt tt z.1, z) (g1, g2) = Run PG C 345 2243 [(4, 0), (2, 0), (2, 82), (0, i)] [] (I2, RF sp rt tt z.1, z) (g1, g2) := by
  refine (T_345_870 ..).trans ?_
  simp only [show w32 (i + 1) = i + 1 from w32_of (by omega) (by omega), show w32 (i + 2) = i + 2 from w32_of (by omega) (by omega), show w32 (i + 3) = i + 3 from w32_of (by omega) (by omega), show w32 (i + 4) = i + 4 from w32_of (by omega) (by omega)]
  refine ci_t ⟨by omega, by omega⟩ ?_
  refine ci_t ⟨by omega, by omega⟩ ?_
  refine ci_t ⟨by omega, by omega⟩ ?_
  refine ci_t ⟨by omega, by omega⟩ ?_
  refine (if_pos ⟨by omega, by omega⟩).trans ?_
  refine bd_t h1 ?_
  refine (T_345_894 ..).trans ?_
  simp only [show w32 (i + 1) = i + 1 from w32_of (by omega) (by omega), show w32 (i + 2) = i + 2 from w32_of (by omega) (by omega), show w32 (i + 3) = i + 3 from w32_of (by omega) (by omega), show w32 (i + 4) = i + 4 from w32_of (by omega) (by omega)]
  refine ci_t ⟨by omega, by omega⟩ ?_
  refine ci_t ⟨by omega, by omega⟩ ?_
  refine ci_t ⟨by omega, by omega⟩ ?_
  refine ci_t ⟨by omega, by omega⟩ ?_
  refine (if_pos ⟨by omega, by omega⟩).trans ?_
  refine bd_t h2 ?_
  refine (T_345_918 ..).trans ?_
  exact ci_t rfl rfl
theorem LS_16 {C : Cal} {I I1 I2 : Nat → Nat → Int} {sp rt : Nat} {tt : Nat → Nat} {z : Zs} {g1 g2 : Nat} {i v : Int} (hi : 0 ≤ i ∧ i + 8 ≤ (z.2.1 : Int) ∧ (z.2.1 : Int) ≤ 4096) (hg : g1 ≤ 600000 ∧ g2 ≤ 7302249) (h1 : C 112 [(2, 0), (0, z.2.2 (i + 1).toNat)] (I, RF sp rt tt z.1, z) = some (some (0, v), (I1, RF sp rt tt z.1, z))) (h2 : C 290 [(2, 82), (0, z.2.2 (i + 1).toNat)] (I1, RF sp rt tt z.1, z) = some (some (0, v), (I2, RF sp rt tt z.1, z))) : Run PG C 345 923 [(4, 0), (2, 0), (2, 82), (0, i)] [] (I, RF sp rt tt z.1, z) (g1, g2) = Run PG C 345 2243 [(4, 0), (2, 0), (2, 82), (0, i)] [] (I2, RF sp rt tt z.1, z) (g1, g2) := by
  refine (T_345_923 ..).trans ?_
  simp only [show w32 (i + 1) = i + 1 from w32_of (by omega) (by omega)]
  refine ci_t ⟨by omega, by omega⟩ ?_
  refine (if_pos ⟨by omega, by omega⟩).trans ?_
  refine bd_t h1 ?_
  refine (T_345_932 ..).trans ?_
  simp only [show w32 (i + 1) = i + 1 from w32_of (by omega) (by omega)]
  refine ci_t ⟨by omega, by omega⟩ ?_
  refine (if_pos ⟨by omega, by omega⟩).trans ?_
  refine bd_t h2 ?_
  refine (T_345_941 ..).trans ?_
  exact ci_t rfl rfl
theorem LS_17 {C : Cal} {I I1 I2 : Nat → Nat → Int} {sp rt : Nat} {tt : Nat → Nat} {z : Zs} {g1 g2 : Nat} {i v : Int} (hi : 0 ≤ i ∧ i + 8 ≤ (z.2.1 : Int) ∧ (z.2.1 : Int) ≤ 4096) (hg : g1 ≤ 600000 ∧ g2 ≤ 7302249) (h1 : C 114 [(2, 0), (0, z.2.2 (i + 1).toNat)] (I, RF sp rt tt z.1, z) = some (some (0, v), (I1, RF sp rt tt z.1, z))) (h2 : C 291 [(2, 82), (0, z.2.2 (i + 1).toNat)] (I1, RF sp rt tt z.1, z) = some (some (0, v), (I2, RF sp rt tt z.1, z))) : Run PG C 345 946 [(4, 0), (2, 0), (2, 82), (0, i)] [] (I, RF sp rt tt z.1, z) (g1, g2) = Run PG C 345 2243 [(4, 0), (2, 0), (2, 82), (0, i)] [] (I2, RF sp rt tt z.1, z) (g1, g2) := by
  refine (T_345_946 ..).trans ?_
  simp only [show w32 (i + 1) = i + 1 from w32_of (by omega) (by omega)]
  refine ci_t ⟨by omega, by omega⟩ ?_
  refine (if_pos ⟨by omega, by omega⟩).trans ?_
  refine bd_t h1 ?_
  refine (T_345_955 ..).trans ?_
  simp only [show w32 (i + 1) = i + 1 from w32_of (by omega) (by omega)]
  refine ci_t ⟨by omega, by omega⟩ ?_
  refine (if_pos ⟨by omega, by omega⟩).trans ?_
  refine bd_t h2 ?_
  refine (T_345_964 ..).trans ?_
  exact ci_t rfl rfl
theorem LS_18 {C : Cal} {I I1 I2 : Nat → Nat → Int} {sp rt : Nat} {tt : Nat → Nat} {z : Zs} {g1 g2 : Nat} {i v : Int} (hi : 0 ≤ i ∧ i + 8 ≤ (z.2.1 : Int) ∧ (z.2.1 : Int) ≤ 4096) (hg : g1 ≤ 600000 ∧ g2 ≤ 7302249) (h1 : C 115 [(2, 0), (0, z.2.2 (i + 1).toNat)] (I, RF sp rt tt z.1, z) = some (some (0, v), (I1, RF sp rt tt z.1, z))) (h2 : C 292 [(2, 82), (0, z.2.2 (i + 1).toNat)] (I1, RF sp rt tt z.1, z) = some (some (0, v), (I2, RF sp rt tt z.1, z))) : Run PG C 345 969 [(4, 0), (2, 0), (2, 82), (0, i)] [] (I, RF sp rt tt z.1, z) (g1, g2) = Run PG C 345 2243 [(4, 0), (2, 0), (2, 82), (0, i)] [] (I2, RF sp rt tt z.1, z) (g1, g2) := by
  refine (T_345_969 ..).trans ?_
  simp only [show w32 (i + 1) = i + 1 from w32_of (by omega) (by omega)]
  refine ci_t ⟨by omega, by omega⟩ ?_
  refine (if_pos ⟨by omega, by omega⟩).trans ?_
  refine bd_t h1 ?_
  refine (T_345_978 ..).trans ?_
  simp only [show w32 (i + 1) = i + 1 from w32_of (by omega) (by omega)]
  refine ci_t ⟨by omega, by omega⟩ ?_
  refine (if_pos ⟨by omega, by omega⟩).trans ?_
  refine bd_t h2 ?_
  refine (T_345_987 ..).trans ?_
  exact ci_t rfl rfl
theorem LS_19 {C : Cal} {I I1 I2 : Nat → Nat → Int} {sp rt : Nat} {tt : Nat → Nat} {z : Zs} {g1 g2 : Nat} {i v : Int} (hi : 0 ≤ i ∧ i + 8 ≤ (z.2.1 : Int) ∧ (z.2.1 : Int) ≤ 4096) (hg : g1 ≤ 600000 ∧ g2 ≤ 7302249) (h1 : C 117 [(2, 0), (0, z.2.2 (i + 1).toNat)] (I, RF sp rt tt z.1, z) = some (some (0, v), (I1, RF sp rt tt z.1, z))) (h2 : C 293 [(2, 82), (0, z.2.2 (i + 1).toNat)] (I1, RF sp rt tt z.1, z) = some (some (0, v), (I2, RF sp rt tt z.1, z))) : Run PG C 345 992 [(4, 0), (2, 0), (2, 82), (0, i)] [] (I, RF sp rt tt z.1, z) (g1, g2) = Run PG C 345 2243 [(4, 0), (2, 0), (2, 82), (0, i)] [] (I2, RF sp rt tt z.1, z) (g1, g2) := by
  refine (T_345_992 ..).trans ?_
  simp only [show w32 (i + 1) = i + 1 from w32_of (by omega) (by omega)]
  refine ci_t ⟨by omega, by omega⟩ ?_
  refine (if_pos ⟨by omega, by omega⟩).trans ?_
  refine bd_t h1 ?_
  refine (T_345_1001 ..).trans ?_
  simp only [show w32 (i + 1) = i + 1 from w32_of (by omega) (by omega)]
  refine ci_t ⟨by omega, by omega⟩ ?_
  refine (if_pos ⟨by omega, by omega⟩).trans ?_
  refine bd_t h2 ?_
  refine (T_345_1010 ..).trans ?_
  exact ci_t rfl rfl
theorem LS_20 {C : Cal} {I I1 I2 : Nat → Nat → Int} {sp rt : Nat} {tt : Nat → Nat} {z : Zs} {g1 g2 : Nat} {i v : Int} (hi : 0 ≤ i ∧ i + 8 ≤ (z.2.1 : Int) ∧ (z.2.1 : Int) ≤ 4096) (hg : g1 ≤ 600000 ∧ g2 ≤ 7302249) (h1 : C 119 [(2, 0), (0, z.2.2 (i + 1).toNat)] (I, RF sp rt tt z.1, z) = some (some (0, v), (I1, RF sp rt tt z.1, z))) (h2 : C 294 [(2, 82), (0, z.2.2 (i + 1).toNat)] (I1, RF sp rt tt z.1, z) = some (some (0, v), (I2, RF sp rt tt z.1, z))) : Run PG C 345 1015 [(4, 0), (2, 0), (2, 82), (0, i)] [] (I, RF sp rt tt z.1, z) (g1, g2) = Run PG C 345 2243 [(4, 0), (2, 0), (2, 82), (0, i)] [] (I2, RF sp rt tt z.1, z) (g1, g2) := by
  refine (T_345_1015 ..).trans ?_
  simp only [show w32 (i + 1) = i + 1 from w32_of (by omega) (by omega)]
  refine ci_t ⟨by omega, by omega⟩ ?_
  refine (if_pos ⟨by omega, by omega⟩).trans ?_
  refine bd_t h1 ?_
  refine (T_345_1024 ..).trans ?_
  simp only [show w32 (i + 1) = i + 1 from w32_of (by omega) (by omega)]
  refine ci_t ⟨by omega, by omega⟩ ?_
  refine (if_pos ⟨by omega, by omega⟩).trans ?_
  refine bd_t h2 ?_
  refine (T_345_1033 ..).trans ?_
  exact ci_t rfl rfl
theorem LS_21 {C : Cal} {I I1 I2 : Nat → Nat → Int} {sp rt : Nat} {tt : Nat → Nat} {z : Zs} {g1 g2 : Nat} {i v : Int} (hi : 0 ≤ i ∧ i + 8 ≤ (z.2.1 : Int) ∧ (z.2.1 : Int) ≤ 4096) (hg : g1 ≤ 600000 ∧ g2 ≤ 7302249) (h1 : C 120 [(2, 0), (0, z.2.2 (i + 1).toNat)] (I, RF sp rt tt z.1, z) = some (some (0, v), (I1, RF sp rt tt z.1, z))) (h2 : C 295 [(2, 82), (0, z.2.2 (i + 1).toNat)] (I1, RF sp rt tt z.1, z) = some (some (0, v), (I2, RF sp rt tt z.1, z))) : Run PG C 345 1038 [(4, 0), (2, 0), (2, 82), (0, i)] [] (I, RF sp rt tt z.1, z) (g1, g2) = Run PG C 345 2243 [(4, 0), (2, 0), (2, 82), (0, i)] [] (I2, RF sp rt tt z.1, z) (g1, g2) := by
  refine (T_345_1038 ..).trans ?_
  simp only [show w32 (i + 1) = i + 1 from w32_of (by omega) (by omega)]
  refine ci_t ⟨by omega, by omega⟩ ?_
  refine (if_pos ⟨by omega, by omega⟩).trans ?_
  refine bd_t h1 ?_
  refine (T_345_1047 ..).trans ?_
  simp only [show w32 (i + 1) = i + 1 from w32_of (by omega) (by omega)]
  refine ci_t ⟨by omega, by omega⟩ ?_
  refine (if_pos ⟨by omega, by omega⟩).trans ?_
  refine bd_t h2 ?_
  refine (T_345_1056 ..).trans ?_
  exact ci_t rfl rfl
theorem LS_22 {C : Cal} {I I1 I2 : Nat → Nat → Int} {sp rt : Nat} {tt : Nat → Nat} {z : Zs} {g1 g2 : Nat} {i v : Int} (hi : 0 ≤ i ∧ i + 8 ≤ (z.2.1 : Int) ∧ (z.2.1 : Int) ≤ 4096) (hg : g1 ≤ 600000 ∧ g2 ≤ 7302249) (h1 : C 121 [(2, 0), (0, z.2.2 (i + 1).toNat), (0, z.2.2 (i + 2).toNat), (0, z.2.2 (i + 3).toNat), (0, z.2.2 (i + 4).toNat)] (I, RF sp rt tt z.1, z) = some (some (0, v), (I1, RF sp rt tt z.1, z))) (h2 : C 296 [(2, 82), (0, z.2.2 (i + 1).toNat), (0, z.2.2 (i + 2).toNat), (0, z.2.2 (i + 3).toNat), (0, z.2.2 (i + 4).toNat)] (I1, RF sp rt tt z.1, z) = some (some (0, v), (I2, RF sp rt tt z.1, z))) : Run PG C 345 1061 [(4, 0), (2, 0), (2, 82), (0, i)] [] (I, RF sp rt tt z.1, z) (g1, g2) = Run PG C 345 2243 [(4, 0), (2, 0), (2, 82), (0, i)] [] (I2, RF sp rt tt z.1, z) (g1, g2) := by
  refine (T_345_1061 ..).trans ?_
  simp only [show w32 (i + 1) = i + 1 from w32_of (by omega) (by omega), show w32 (i + 2) = i + 2 from w32_of (by omega) (by omega), show w32 (i + 3) = i + 3 from w32_of (by omega) (by omega), show w32 (i + 4) = i + 4 from w32_of (by omega) (by omega)]
  refine ci_t ⟨by omega, by omega⟩ ?_
  refine ci_t ⟨by omega, by omega⟩ ?_
  refine ci_t ⟨by omega, by omega⟩ ?_
  refine ci_t ⟨by omega, by omega⟩ ?_
  refine (if_pos ⟨by omega, by omega⟩).trans ?_
  refine bd_t h1 ?_
  refine (T_345_1085 ..).trans ?_
  simp only [show w32 (i + 1) = i + 1 from w32_of (by omega) (by omega), show w32 (i + 2) = i + 2 from w32_of (by omega) (by omega), show w32 (i + 3) = i + 3 from w32_of (by omega) (by omega), show w32 (i + 4) = i + 4 from w32_of (by omega) (by omega)]
  refine ci_t ⟨by omega, by omega⟩ ?_
  refine ci_t ⟨by omega, by omega⟩ ?_
  refine ci_t ⟨by omega, by omega⟩ ?_
  refine ci_t ⟨by omega, by omega⟩ ?_
  refine (if_pos ⟨by omega, by omega⟩).trans ?_
  refine bd_t h2 ?_
  refine (T_345_1109 ..).trans ?_
  exact ci_t rfl rfl
theorem LS_23 {C : Cal} {I I1 I2 : Nat → Nat → Int} {sp rt : Nat} {tt : Nat → Nat} {z : Zs} {g1 g2 : Nat} {i v : Int} (hi : 0 ≤ i ∧ i + 8 ≤ (z.2.1 : Int) ∧ (z.2.1 : Int) ≤ 4096) (hg : g1 ≤ 600000 ∧ g2 ≤ 7302249) (h1 : C 124 [(2, 0), (0, z.2.2 (i + 1).toNat), (0, z.2.2 (i + 2).toNat), (0, z.2.2 (i + 3).toNat)] (I, RF sp rt tt z.1, z) = some (some (0, v), (I1, RF sp rt tt z.1, z))) (h2 : C 298 [(2, 82), (0, z.2.2 (i + 1).toNat), (0, z.2.2 (i + 2).toNat), (0, z.2.2 (i + 3).toNat)] (I1, RF sp rt tt z.1, z) = some (some (0, v), (I2, RF sp rt tt z.1, z))) : Run PG C 345 1114 [(4, 0), (2, 0), (2, 82), (0, i)] [] (I, RF sp rt tt z.1, z) (g1, g2) = Run PG C 345 2243 [(4, 0), (2, 0), (2, 82), (0, i)] [] (I2, RF sp rt tt z.1, z) (g1, g2) := by
  refine (T_345_1114 ..).trans ?_
  simp only [show w32 (i + 1) = i + 1 from w32_of (by omega) (by omega), show w32 (i + 2) = i + 2 from w32_of (by omega) (by omega), show w32 (i + 3) = i + 3 from w32_of (by omega) (by omega)]
  refine ci_t ⟨by omega, by omega⟩ ?_
  refine ci_t ⟨by omega, by omega⟩ ?_
  refine ci_t ⟨by omega, by omega⟩ ?_
  refine (if_pos ⟨by omega, by omega⟩).trans ?_
  refine bd_t h1 ?_
  refine (T_345_1133 ..).trans ?_
  simp only [show w32 (i + 1) = i + 1 from w32_of (by omega) (by omega), show w32 (i + 2) = i + 2 from w32_of (by omega) (by omega), show w32 (i + 3) = i + 3 from w32_of (by omega) (by omega)]
  refine ci_t ⟨by omega, by omega⟩ ?_
  refine ci_t ⟨by omega, by omega⟩ ?_
  refine ci_t ⟨by omega, by omega⟩ ?_
  refine (if_pos ⟨by omega, by omega⟩).trans ?_
  refine bd_t h2 ?_
  refine (T_345_1152 ..).trans ?_
  exact ci_t rfl rfl
theorem LS_24 {C : Cal} {I I1 I2 : Nat → Nat → Int} {sp rt : Nat} {tt : Nat → Nat} {z : Zs} {g1 g2 : Nat} {i v : Int} (hi : 0 ≤ i ∧ i + 8 ≤ (z.2.1 : Int) ∧ (z.2.1 : Int) ≤ 4096) (hg : g1 ≤ 600000 ∧ g2 ≤ 7302249) (h1 : C 127 [(2, 0), (0, z.2.2 (i + 1).toNat), (0, z.2.2 (i + 2).toNat), (0, z.2.2 (i + 3).toNat)] (I, RF sp rt tt z.1, z) = some (some (0, v), (I1, RF sp rt tt z.1, z))) (h2 : C 300 [(2, 82), (0, z.2.2 (i + 1).toNat), (0, z.2.2 (i + 2).toNat), (0, z.2.2 (i + 3).toNat)] (I1, RF sp rt tt z.1, z) = some (some (0, v), (I2, RF sp rt tt z.1, z))) : Run PG C 345 1157 [(4, 0), (2, 0), (2, 82), (0, i)] [] (I, RF sp rt tt z.1, z) (g1, g2) = Run PG C 345 2243 [(4, 0), (2, 0), (2, 82), (0, i)] [] (I2, RF sp rt tt z.1, z) (g1, g2) := by
  refine (T_345_1157 ..).trans ?_
  simp only [show w32 (i + 1) = i + 1 from w32_of (by omega) (by omega), show w32 (i + 2) = i + 2 from w32_of (by omega) (by omega), show w32 (i + 3) = i + 3 from w32_of (by omega) (by omega)]
  refine ci_t ⟨by omega, by omega⟩ ?_
  refine ci_t ⟨by omega, by omega⟩ ?_
  refine ci_t ⟨by omega, by omega⟩ ?_
  refine (if_pos ⟨by omega, by omega⟩).trans ?_
  refine bd_t h1 ?_
  refine (T_345_1176 ..).trans ?_
  simp only [show w32 (i + 1) = i + 1 from w32_of (by omega) (by omega), show w32 (i + 2) = i + 2 from w32_of (by omega) (by omega), show w32 (i + 3) = i + 3 from w32_of (by omega) (by omega)]
  refine ci_t ⟨by omega, by omega⟩ ?_
  refine ci_t ⟨by omega, by omega⟩ ?_
  refine ci_t ⟨by omega, by omega⟩ ?_
  refine (if_pos ⟨by omega, by omega⟩).trans ?_
  refine bd_t h2 ?_
  refine (T_345_1195 ..).trans ?_
  exact ci_t rfl rfl
theorem LS_25 {C : Cal} {I I1 I2 : Nat → Nat → Int} {sp rt : Nat} {tt : Nat → Nat} {z : Zs} {g1 g2 : Nat} {i v : Int} (hi : 0 ≤ i ∧ i + 8 ≤ (z.2.1 : Int) ∧ (z.2.1 : Int) ≤ 4096) (hg : g1 ≤ 600000 ∧ g2 ≤ 7302249) (h1 : C 130 [(2, 0), (0, z.2.2 (i + 1).toNat), (0, z.2.2 (i + 2).toNat), (0, z.2.2 (i + 3).toNat), (0, z.2.2 (i + 4).toNat)] (I, RF sp rt tt z.1, z) = some (some (0, v), (I1, RF sp rt tt z.1, z))) (h2 : C 301 [(2, 82), (0, z.2.2 (i + 1).toNat), (0, z.2.2 (i + 2).toNat), (0, z.2.2 (i + 3).toNat), (0, z.2.2 (i + 4).toNat)] (I1, RF sp rt tt z.1, z) = some (some (0, v), (I2, RF sp rt tt z.1, z))) : Run PG C 345 1200 [(4, 0), (2, 0), (2, 82), (0, i)] [] (I, RF sp rt tt z.1, z) (g1, g2) = Run PG C 345 2243 [(4, 0), (2, 0), (2, 82), (0, i)] [] (I2, RF sp rt tt z.1, z) (g1, g2) := by
  refine (T_345_1200 ..).trans ?_
  simp only [show w32 (i + 1) = i + 1 from w32_of (by omega) (by omega), show w32 (i + 2) = i + 2 from w32_of (by omega) (by omega), show w32 (i + 3) = i + 3 from w32_of (by omega) (by omega), show w32 (i + 4) = i + 4 from w32_of (by omega) (by omega)]
  refine ci_t ⟨by omega, by omega⟩ ?_
  refine ci_t ⟨by omega, by omega⟩ ?_
  refine ci_t ⟨by omega, by omega⟩ ?_
  refine ci_t ⟨by omega, by omega⟩ ?_
  refine (if_pos ⟨by omega, by omega⟩).trans ?_
  refine bd_t h1 ?_
  refine (T_345_1224 ..).trans ?_
  simp only [show w32 (i + 1) = i + 1 from w32_of (by omega) (by omega), show w32 (i + 2) = i + 2 from w32_of (by omega) (by omega), show w32 (i + 3) = i + 3 from w32_of (by omega) (by omega), show w32 (i + 4) = i + 4 from w32_of (by omega) (by omega)]
  refine ci_t ⟨by omega, by omega⟩ ?_
  refine ci_t ⟨by omega, by omega⟩ ?_
  refine ci_t ⟨by omega, by omega⟩ ?_
  refine ci_t ⟨by omega, by omega⟩ ?_
  refine (if_pos ⟨by omega, by omega⟩).trans ?_
  refine bd_t h2 ?_
  refine (T_345_1248 ..).trans ?_
  exact ci_t rfl rfl
theorem LS_26 {C : Cal} {I I1 I2 : Nat → Nat → Int} {sp rt : Nat} {tt : Nat → Nat} {z : Zs} {g1 g2 : Nat} {i v : Int} (hi : 0 ≤ i ∧ i + 8 ≤ (z.2.1 : Int) ∧ (z.2.1 : Int) ≤ 4096) (hg : g1 ≤ 600000 ∧ g2 ≤ 7302249) (h1 : C 132 [(2, 0), (0, z.2.2 (i + 1).toNat), (0, z.2.2 (i + 2).toNat), (0, z.2.2 (i + 3).toNat)] (I, RF sp rt tt z.1, z) = some (some (0, v), (I1, RF sp rt tt z.1, z))) (h2 : C 302 [(2, 82), (0, z.2.2 (i + 1).toNat), (0, z.2.2 (i + 2).toNat), (0, z.2.2 (i + 3).toNat)] (I1, RF sp rt tt z.1, z) = some (some (0, v), (I2, RF sp rt tt z.1, z))) : Run PG C 345 1253 [(4, 0), (2, 0), (2, 82), (0, i)] [] (I, RF sp rt tt z.1, z) (g1, g2) = Run PG C 345 2243 [(4, 0), (2, 0), (2, 82), (0, i)] [] (I2, RF sp rt tt z.1, z) (g1, g2) := by
  refine (T_345_1253 ..).trans ?_
  simp only [show w32 (i + 1) = i + 1 from w32_of (by omega) (by omega), show w32 (i + 2) = i + 2 from w32_of (by omega) (by omega), show w32 (i + 3) = i + 3 from w32_of (by omega) (by omega)]
  refine ci_t ⟨by omega, by omega⟩ ?_
  refine ci_t ⟨by omega, by omega⟩ ?_
  refine ci_t ⟨by omega, by omega⟩ ?_
  refine (if_pos ⟨by omega, by omega⟩).trans ?_
  refine bd_t h1 ?_
  refine (T_345_1272 ..).trans ?_
  simp only [show w32 (i + 1) = i + 1 from w32_of (by omega) (by omega), show w32 (i + 2) = i + 2 from w32_of (by omega) (by omega), show w32 (i + 3) = i + 3 from w32_of (by omega) (by omega)]
  refine ci_t ⟨by omega, by omega⟩ ?_
  refine ci_t ⟨by omega, by omega⟩ ?_
  refine ci_t ⟨by omega, by omega⟩ ?_
  refine (if_pos ⟨by omega, by omega⟩).trans ?_
  refine bd_t h2 ?_
  refine (T_345_1291 ..).trans ?_
  exact ci_t rfl rfl
theorem LS_27 {C : Cal} {I I1 I2 : Nat → Nat → Int} {sp rt : Nat} {tt : Nat → Nat} {z : Zs} {g1 g2 : Nat} {i v : Int} {b : Int} (hb : (z.2.2 (i + 2).toNat = 0 ∧ b = 0) ∨ (¬ z.2.2 (i + 2).toNat = 0 ∧ b = 1)) (hi : 0 ≤ i ∧ i + 8 ≤ (z.2.1 : Int) ∧ (z.2.1 : Int) ≤ 4096) (hg : g1 ≤ 600000 ∧ g2 ≤ 7302249) (h1 : C 136 [(2, 0), (0, z.2.2 (i + 1).toNat), (0, b)] (I, RF sp rt tt z.1, z) = some (some (0, v), (I1, RF sp rt tt z.1, z))) (h2 : C 303 [(2, 82), (0, z.2.2 (i + 1).toNat), (0, b)] (I1, RF sp rt tt z.1, z) = some (some (0, v), (I2, RF sp rt tt z.1, z))) : Run PG C 345 1296 [(4, 0), (2, 0), (2, 82), (0, i)] [] (I, RF sp rt tt z.1, z) (g1, g2) = Run PG C 345 2243 [(4, 0), (2, 0), (2, 82), (0, i)] [] (I2, RF sp rt tt z.1, z) (g1, g2) := by
  rcases hb with ⟨e, rfl⟩ | ⟨e, rfl⟩
  · refine (T_345_1296 ..).trans ?_
    simp only [show w32 (i + 1) = i + 1 from w32_of (by omega) (by omega), show w32 (i + 2) = i + 2 from w32_of (by omega) (by omega)]
    refine ci_t ⟨by omega, by omega⟩ ?_
    refine ci_t ⟨by omega, by omega⟩ ?_
    refine ci_t e ?_
    refine (if_pos ⟨by omega, by omega⟩).trans ?_
    refine bd_t h1 ?_
    refine (T_345_1318 ..).trans ?_
    simp only [show w32 (i + 1) = i + 1 from w32_of (by omega) (by omega), show w32 (i + 2) = i + 2 from w32_of (by omega) (by omega)]
    refine ci_t ⟨by omega, by omega⟩ ?_
    refine ci_t ⟨by omega, by omega⟩ ?_
    refine ci_t e ?_
    refine (if_pos ⟨by omega, by omega⟩).trans ?_
    refine bd_t h2 ?_
    refine (T_345_1340 ..).trans ?_
    exact ci_t rfl rfl
  · refine (T_345_1296 ..).trans ?_
    simp only [show w32 (i + 1) = i + 1 from w32_of (by omega) (by omega), show w32 (i + 2) = i + 2 from w32_of (by omega) (by omega)]
    refine ci_t ⟨by omega, by omega⟩ ?_
    refine ci_t ⟨by omega, by omega⟩ ?_
    refine ci_f e ?_
    refine (if_pos ⟨by omega, by omega⟩).trans ?_
    refine bd_t h1 ?_
    refine (T_345_1318 ..).trans ?_
    simp only [show w32 (i + 1) = i + 1 from w32_of (by omega) (by omega), show w32 (i + 2) = i + 2 from w32_of (by omega) (by omega)]
    refine ci_t ⟨by omega, by omega⟩ ?_
    refine ci_t ⟨by omega, by omega⟩ ?_
    refine ci_f e ?_
    refine (if_pos ⟨by omega, by omega⟩).trans ?_
    refine bd_t h2 ?_
    refine (T_345_1340 ..).trans ?_
    exact ci_t rfl rfl
theorem LS_28 {C : Cal} {I I1 I2 : Nat → Nat → Int} {sp rt : Nat} {tt : Nat → Nat} {z : Zs} {g1 g2 : Nat} {i v : Int} (hi : 0 ≤ i ∧ i + 8 ≤ (z.2.1 : Int) ∧ (z.2.1 : Int) ≤ 4096) (hg : g1 ≤ 600000 ∧ g2 ≤ 7302249) (h1 : C 137 [(2, 0), (0, z.2.2 (i + 1).toNat), (0, z.2.2 (i + 2).toNat), (0, z.2.2 (i + 3).toNat), (0, z.2.2 (i + 4).toNat)] (I, RF sp rt tt z.1, z) = some (some (0, v), (I1, RF sp rt tt z.1, z))) (h2 : C 304 [(2, 82), (0, z.2.2 (i + 1).toNat), (0, z.2.2 (i + 2).toNat), (0, z.2.2 (i + 3).toNat), (0, z.2.2 (i + 4).toNat)] (I1, RF sp rt tt z.1, z) = some (some (0, v), (I2, RF sp rt tt z.1, z))) : Run PG C 345 1345 [(4, 0), (2, 0), (2, 82), (0, i)] [] (I, RF sp rt tt z.1, z) (g1, g2) = Run PG C 345 2243 [(4, 0), (2, 0), (2, 82), (0, i)] [] (I2, RF sp rt tt z.1, z) (g1, g2) := by
  refine (T_345_1345 ..).trans ?_
  simp only [show w32 (i + 1) = i + 1 from w32_of (by omega) (by omega), show w32 (i + 2) = i + 2 from w32_of (by omega) (by omega), show w32 (i + 3) = i + 3 from w32_of (by omega) (by omega), show w32 (i + 4) = i + 4 from w32_of (by omega) (by omega)]
  refine ci_t ⟨by omega, by omega⟩ ?_
  refine ci_t ⟨by omega, by omega⟩ ?_
  refine ci_t ⟨by omega, by omega⟩ ?_
  refine ci_t ⟨by omega, by omega⟩ ?_
  refine (if_pos ⟨by omega, by omega⟩).trans ?_
  refine bd_t h1 ?_
  refine (T_345_1369 ..).trans ?_
  simp only [show w32 (i + 1) = i + 1 from w32_of (by omega) (by omega), show w32 (i + 2) = i + 2 from w32_of (by omega) (by omega), show w32 (i + 3) = i + 3 from w32_of (by omega) (by omega), show w32 (i + 4) = i + 4 from w32_of (by omega) (by omega)]
  refine ci_t ⟨by omega, by omega⟩ ?_
  refine ci_t ⟨by omega, by omega⟩ ?_
  refine ci_t ⟨by omega, by omega⟩ ?_
  refine ci_t ⟨by omega, by omega⟩ ?_
  refine (if_pos ⟨by omega, by omega⟩).trans ?_
  refine bd_t h2 ?_
  refine (T_345_1393 ..).trans ?_
  exact ci_t rfl rfl
theorem LS_29 {C : Cal} {I I1 I2 : Nat → Nat → Int} {sp rt : Nat} {tt : Nat → Nat} {z : Zs} {g1 g2 : Nat} {i v : Int} (hi : 0 ≤ i ∧ i + 8 ≤ (z.2.1 : Int) ∧ (z.2.1 : Int) ≤ 4096) (hg : g1 ≤ 600000 ∧ g2 ≤ 7302249) (h1 : C 140 [(2, 0), (0, z.2.2 (i + 1).toNat), (0, z.2.2 (i + 2).toNat), (0, z.2.2 (i + 3).toNat), (0, z.2.2 (i + 4).toNat), (0, z.2.2 (i + 5).toNat), (0, z.2.2 (i + 6).toNat), (0, z.2.2 (i + 7).toNat)] (I, RF sp rt tt z.1, z) = some (some (0, v), (I1, RF sp rt tt z.1, z))) (h2 : C 306 [(2, 82), (0, z.2.2 (i + 1).toNat), (0, z.2.2 (i + 2).toNat), (0, z.2.2 (i + 3).toNat), (0, z.2.2 (i + 4).toNat), (0, z.2.2 (i + 5).toNat), (0, z.2.2 (i + 6).toNat), (0, z.2.2 (i + 7).toNat)] (I1, RF sp rt tt z.1, z) = some (some (0, v), (I2, RF sp rt tt z.1, z))) : Run PG C 345 1398 [(4, 0), (2, 0), (2, 82), (0, i)] [] (I, RF sp rt tt z.1, z) (g1, g2) = Run PG C 345 2243 [(4, 0), (2, 0), (2, 82), (0, i)] [] (I2, RF sp rt tt z.1, z) (g1, g2) := by
  refine (T_345_1398 ..).trans ?_
  simp only [show w32 (i + 1) = i + 1 from w32_of (by omega) (by omega), show w32 (i + 2) = i + 2 from w32_of (by omega) (by omega), show w32 (i + 3) = i + 3 from w32_of (by omega) (by omega), show w32 (i + 4) = i + 4 from w32_of (by omega) (by omega), show w32 (i + 5) = i + 5 from w32_of (by omega) (by omega), show w32 (i + 6) = i + 6 from w32_of (by omega) (by omega), show w32 (i + 7) = i + 7 from w32_of (by omega) (by omega)]
  refine ci_t ⟨by omega, by omega⟩ ?_
  refine ci_t ⟨by omega, by omega⟩ ?_
  refine ci_t ⟨by omega, by omega⟩ ?_
  refine ci_t ⟨by omega, by omega⟩ ?_
  refine ci_t ⟨by omega, by omega⟩ ?_
  refine ci_t ⟨by omega, by omega⟩ ?_
  refine ci_t ⟨by omega, by omega⟩ ?_
  refine (if_pos ⟨by omega, by omega⟩).trans ?_
  refine bd_t h1 ?_
  refine (T_345_1439 ..).trans ?_
  simp only [show w32 (i + 1) = i + 1 from w32_of (by omega) (by omega), show w32 (i + 2) = i + 2 from w32_of (by omega) (by omega), show w32 (i + 3) = i + 3 from w32_of (by omega) (by omega), show w32 (i + 4) = i + 4 from w32_of (by omega) (by omega), show w32 (i + 5) = i + 5 from w32_of (by omega) (by omega), show w32 (i + 6) = i + 6 from w32_of (by omega) (by omega), show w32 (i + 7) = i + 7 from w32_of (by omega) (by omega)]
  refine ci_t ⟨by omega, by omega⟩ ?_
  refine ci_t ⟨by omega, by omega⟩ ?_
  refine ci_t ⟨by omega, by omega⟩ ?_
  refine ci_t ⟨by omega, by omega⟩ ?_
  refine ci_t ⟨by omega, by omega⟩ ?_
  refine ci_t ⟨by omega, by omega⟩ ?_
  refine ci_t ⟨by omega, by omega⟩ ?_
  refine (if_pos ⟨by omega, by omega⟩).trans ?_
  refine bd_t h2 ?_
  refine (T_345_1480 ..).trans ?_
  exact ci_t rfl rfl
theorem LS_30 {C : Cal} {I I1 I2 : Nat → Nat → Int} {sp rt : Nat} {tt : Nat → Nat} {z : Zs} {g1 g2 : Nat} {i v : Int} (hi : 0 ≤ i ∧ i + 8 ≤ (z.2.1 : Int) ∧ (z.2.1 : Int) ≤ 4096) (hg : g1 ≤ 600000 ∧ g2 ≤ 7302249) (h1 : C 143 [(2, 0)] (I, RF sp rt tt z.1, z) = some (some (0, v), (I1, RF sp rt tt z.1, z))) (h2 : C 307 [(2, 82)] (I1, RF sp rt tt z.1, z) = some (some (0, v), (I2, RF sp rt tt z.1, z))) : Run PG C 345 1485 [(4, 0), (2, 0), (2, 82), (0, i)] [] (I, RF sp rt tt z.1, z) (g1, g2) = Run PG C 345 2243 [(4, 0), (2, 0), (2, 82), (0, i)] [] (I2, RF sp rt tt z.1, z) (g1, g2) := by
  refine (T_345_1485 ..).trans ?_
  refine (if_pos ⟨by omega, by omega⟩).trans ?_
  refine bd_t h1 ?_
  refine (T_345_1489 ..).trans ?_
  refine (if_pos ⟨by omega, by omega⟩).trans ?_
  refine bd_t h2 ?_
  refine (T_345_1493 ..).trans ?_
  exact ci_t rfl rfl
theorem LS_31 {C : Cal} {I I1 I2 : Nat → Nat → Int} {sp rt : Nat} {tt : Nat → Nat} {z : Zs} {g1 g2 : Nat} {i v : Int} (hi : 0 ≤ i ∧ i + 8 ≤ (z.2.1 : Int) ∧ (z.2.1 : Int) ≤ 4096) (hg : g1 ≤ 600000 ∧ g2 ≤ 7302249) (h1 : C 145 [(2, 0), (0, z.2.2 (i + 1).toNat)] (I, RF sp rt tt z.1, z) = some (some (0, v), (I1, RF sp rt tt z.1, z))) (h2 : C 308 [(2, 82), (0, z.2.2 (i + 1).toNat)] (I1, RF sp rt tt z.1, z) = some (some (0, v), (I2, RF sp rt tt z.1, z))) : Run PG C 345 1498 [(4, 0), (2, 0), (2, 82), (0, i)] [] (I, RF sp rt tt z.1, z) (g1, g2) = Run PG C 345 2243 [(4, 0), (2, 0), (2, 82), (0, i)] [] (I2, RF sp rt tt z.1, z) (g1, g2) := by
  refine (T_345_1498 ..).trans ?_
  simp only [show w32 (i + 1) = i + 1 from w32_of (by omega) (by omega)]
  refine ci_t ⟨by omega, by omega⟩ ?_
  refine (if_pos ⟨by omega, by omega⟩).trans ?_
  refine bd_t h1 ?_
  refine (T_345_1507 ..).trans ?_
  simp only [show w32 (i + 1) = i + 1 from w32_of (by omega) (by omega)]
  refine ci_t ⟨by omega, by omega⟩ ?_
  refine (if_pos ⟨by omega, by omega⟩).trans ?_
  refine bd_t h2 ?_
  refine (T_345_1516 ..).trans ?_
  exact ci_t rfl rfl
theorem LS_32 {C : Cal} {I I1 I2 : Nat → Nat → Int} {sp rt : Nat} {tt : Nat → Nat} {z : Zs} {g1 g2 : Nat} {i v : Int} (hi : 0 ≤ i ∧ i + 8 ≤ (z.2.1 : Int) ∧ (z.2.1 : Int) ≤ 4096) (hg : g1 ≤ 600000 ∧ g2 ≤ 7302249) (h1 : C 147 [(2, 0), (0, z.2.2 (i + 1).toNat), (0, z.2.2 (i + 2).toNat)] (I, RF sp rt tt z.1, z) = some (some (0, v), (I1, RF sp rt tt z.1, z))) (h2 : C 309 [(2, 82), (0, z.2.2 (i + 1).toNat), (0, z.2.2 (i + 2).toNat)] (I1, RF sp rt tt z.1, z) = some (some (0, v), (I2, RF sp rt tt z.1, z))) : Run PG C 345 1521 [(4, 0), (2, 0), (2, 82), (0, i)] [] (I, RF sp rt tt z.1, z) (g1, g2) = Run PG C 345 2243 [(4, 0), (2, 0), (2, 82), (0, i)] [] (I2, RF sp rt tt z.1, z) (g1, g2) := by
  refine (T_345_1521 ..).trans ?_
  simp only [show w32 (i + 1) = i + 1 from w32_of (by omega) (by omega), show w32 (i + 2) = i + 2 from w32_of (by omega) (by omega)]
  refine ci_t ⟨by omega, by omega⟩ ?_
  refine ci_t ⟨by omega, by omega⟩ ?_
  refine (if_pos ⟨by omega, by omega⟩).trans ?_
  refine bd_t h1 ?_
  refine (T_345_1535 ..).trans ?_
  simp only [show w32 (i + 1) = i + 1 from w32_of (by omega) (by omega), show w32 (i + 2) = i + 2 from w32_of (by omega) (by omega)]
  refine ci_t ⟨by omega, by omega⟩ ?_
  refine ci_t ⟨by omega, by omega⟩ ?_
  refine (if_pos ⟨by omega, by omega⟩).trans ?_
  refine bd_t h2 ?_
  refine (T_345_1549 ..).trans ?_
  exact ci_t rfl rfl
theorem LS_33 {C : Cal} {I I1 I2 : Nat → Nat → Int} {sp rt : Nat} {tt : Nat → Nat} {z : Zs} {g1 g2 : Nat} {i v : Int} (hi : 0 ≤ i ∧ i + 8 ≤ (z.2.1 : Int) ∧ (z.2.1 : Int) ≤ 4096) (hg : g1 ≤ 600000 ∧ g2 ≤ 7302249) (h1 : C 151 [(2, 0), (0, z.2.2 (i + 1).toNat)] (I, RF sp rt tt z.1, z) = some (some (0, v), (I1, RF sp rt tt z.1, z))) (h2 : C 311 [(2, 82), (0, z.2.2 (i + 1).toNat)] (I1, RF sp rt tt z.1, z) = some (some (0, v), (I2, RF sp rt tt z.1, z))) : Run PG C 345 1554 [(4, 0), (2, 0), (2, 82), (0, i)] [] (I, RF sp rt tt z.1, z) (g1, g2) = Run PG C 345 2243 [(4, 0), (2, 0), (2, 82), (0, i)] [] (I2, RF sp rt tt z.1, z) (g1, g2) := by
  refine (T_345_1554 ..).trans ?_
  simp only [show w32 (i + 1) = i + 1 from w32_of (by omega) (by omega)]
  refine ci_t ⟨by omega, by omega⟩ ?_
  refine (if_pos ⟨by omega, by omega⟩).trans ?_
  refine bd_t h1 ?_
  refine (T_345_1563 ..).trans ?_
  simp only [show w32 (i + 1) = i + 1 from w32_of (by omega) (by omega)]
  refine ci_t ⟨by omega, by omega⟩ ?_
  refine (if_pos ⟨by omega, by omega⟩).trans ?_
  refine bd_t h2 ?_
  refine (T_345_1572 ..).trans ?_
  exact ci_t rfl rfl
theorem LS_34 {C : Cal} {I I1 I2 : Nat → Nat → Int} {sp rt : Nat} {tt : Nat → Nat} {z : Zs} {g1 g2 : Nat} {i v : Int} (hi : 0 ≤ i ∧ i + 8 ≤ (z.2.1 : Int) ∧ (z.2.1 : Int) ≤ 4096) (hg : g1 ≤ 600000 ∧ g2 ≤ 7302249) (h1 : C 154 [(2, 0), (0, z.2.2 (i + 1).toNat)] (I, RF sp rt tt z.1, z) = some (some (0, v), (I1, RF sp rt tt z.1, z))) (h2 : C 312 [(2, 82), (0, z.2.2 (i + 1).toNat)] (I1, RF sp rt tt z.1, z) = some (some (0, v), (I2, RF sp rt tt z.1, z))) : Run PG C 345 1577 [(4, 0), (2, 0), (2, 82), (0, i)] [] (I, RF sp rt tt z.1, z) (g1, g2) = Run PG C 345 2243 [(4, 0), (2, 0), (2, 82), (0, i)] [] (I2, RF sp rt tt z.1, z) (g1, g2) := by
  refine (T_345_1577 ..).trans ?_
  simp only [show w32 (i + 1) = i + 1 from w32_of (by omega) (by omega)]
  refine ci_t ⟨by omega, by omega⟩ ?_
  refine (if_pos ⟨by omega, by omega⟩).trans ?_
  refine bd_t h1 ?_
  refine (T_345_1586 ..).trans ?_
  simp only [show w32 (i + 1) = i + 1 from w32_of (by omega) (by omega)]
  refine ci_t ⟨by omega, by omega⟩ ?_
  refine (if_pos ⟨by omega, by omega⟩).trans ?_
  refine bd_t h2 ?_
  refine (T_345_1595 ..).trans ?_
  exact ci_t rfl rfl
theorem LS_35 {C : Cal} {I I1 I2 : Nat → Nat → Int} {sp rt : Nat} {tt : Nat → Nat} {z : Zs} {g1 g2 : Nat} {i v : Int} (hi : 0 ≤ i ∧ i + 8 ≤ (z.2.1 : Int) ∧ (z.2.1 : Int) ≤ 4096) (hg : g1 ≤ 600000 ∧ g2 ≤ 7302249) (h1 : C 155 [(2, 0), (0, z.2.2 (i + 1).toNat), (0, z.2.2 (i + 2).toNat)] (I, RF sp rt tt z.1, z) = some (some (0, v), (I1, RF sp rt tt z.1, z))) (h2 : C 313 [(2, 82), (0, z.2.2 (i + 1).toNat), (0, z.2.2 (i + 2).toNat)] (I1, RF sp rt tt z.1, z) = some (some (0, v), (I2, RF sp rt tt z.1, z))) : Run PG C 345 1600 [(4, 0), (2, 0), (2, 82), (0, i)] [] (I, RF sp rt tt z.1, z) (g1, g2) = Run PG C 345 2243 [(4, 0), (2, 0), (2, 82), (0, i)] [] (I2, RF sp rt tt z.1, z) (g1, g2) := by
  refine (T_345_1600 ..).trans ?_
  simp only [show w32 (i + 1) = i + 1 from w32_of (by omega) (by omega), show w32 (i + 2) = i + 2 from w32_of (by omega) (by omega)]
  refine ci_t ⟨by omega, by omega⟩ ?_
  refine ci_t ⟨by omega, by omega⟩ ?_
  refine (if_pos ⟨by omega, by omega⟩).trans ?_
  refine bd_t h1 ?_
  refine (T_345_1614 ..).trans ?_
  simp only [show w32 (i + 1) = i + 1 from w32_of (by omega) (by omega), show w32 (i + 2) = i + 2 from w32_of (by omega) (by omega)]
  refine ci_t ⟨by omega, by omega⟩ ?_
  refine ci_t ⟨by omega, by omega⟩ ?_
  refine (if_pos ⟨by omega, by omega⟩).trans ?_
  refine bd_t h2 ?_
  refine (T_345_1628 ..).trans ?_
  exact ci_t rfl rfl
theorem LS_36 {C : Cal} {I I1 I2 : Nat → Nat → Int} {sp rt : Nat} {tt : Nat → Nat} {z : Zs} {g1 g2 : Nat} {i v : Int} (hi : 0 ≤ i ∧ i + 8 ≤ (z.2.1 : Int) ∧ (z.2.1 : Int) ≤ 4096) (hg : g1 ≤ 600000 ∧ g2 ≤ 7302249) (h1 : C 157 [(2, 0), (0, z.2.2 (i + 1).toNat), (0, z.2.2 (i + 2).toNat), (0, z.2.2 (i + 3).toNat)] (I, RF sp rt tt z.1, z) = some (some (0, v), (I1, RF sp rt tt z.1, z))) (h2 : C 314 [(2, 82), (0, z.2.2 (i + 1).toNat), (0, z.2.2 (i + 2).toNat), (0, z.2.2 (i + 3).toNat)] (I1, RF sp rt tt z.1, z) = some (some (0, v), (I2, RF sp rt tt z.1, z))) : Run PG C 345 1633 [(4, 0), (2, 0), (2, 82), (0, i)] [] (I, RF sp rt tt z.1, z) (g1, g2) = Run PG C 345 2243 [(4, 0), (2, 0), (2, 82), (0, i)] [] (I2, RF sp rt tt z.1, z) (g1, g2) := by
  refine (T_345_1633 ..).trans ?_
  simp only [show w32 (i + 1) = i + 1 from w32_of (by omega) (by omega), show w32 (i + 2) = i + 2 from w32_of (by omega) (by omega), show w32 (i + 3) = i + 3 from w32_of (by omega) (by omega)]
  refine ci_t ⟨by omega, by omega⟩ ?_
  refine ci_t ⟨by omega, by omega⟩ ?_
  refine ci_t ⟨by omega, by omega⟩ ?_
  refine (if_pos ⟨by omega, by omega⟩).trans ?_
  refine bd_t h1 ?_
  refine (T_345_1652 ..).trans ?_
  simp only [show w32 (i + 1) = i + 1 from w32_of (by omega) (by omega), show w32 (i + 2) = i + 2 from w32_of (by omega) (by omega), show w32 (i + 3) = i + 3 from w32_of (by omega) (by omega)]
  refine ci_t ⟨by omega, by omega⟩ ?_
  refine ci_t ⟨by omega, by omega⟩ ?_
  refine ci_t ⟨by omega, by omega⟩ ?_
  refine (if_pos ⟨by omega, by omega⟩).trans ?_
  refine bd_t h2 ?_
  refine (T_345_1671 ..).trans ?_
  exact ci_t rfl rfl
theorem LS_37 {C : Cal} {I I1 I2 : Nat → Nat → Int} {sp rt : Nat} {tt : Nat → Nat} {z : Zs} {g1 g2 : Nat} {i v : Int} (hi : 0 ≤ i ∧ i + 8 ≤ (z.2.1 : Int) ∧ (z.2.1 : Int) ≤ 4096) (hg : g1 ≤ 600000 ∧ g2 ≤ 7302249) (h1 : C 159 [(2, 0), (0, z.2.2 (i + 1).toNat)] (I, RF sp rt tt z.1, z) = some (some (0, v), (I1, RF sp rt tt z.1, z))) (h2 : C 316 [(2, 82), (0, z.2.2 (i + 1).toNat)] (I1, RF sp rt tt z.1, z) = some (some (0, v), (I2, RF sp rt tt z.1, z))) : Run PG C 345 1676 [(4, 0), (2, 0), (2, 82), (0, i)] [] (I, RF sp rt tt z.1, z) (g1, g2) = Run PG C 345 2243 [(4, 0), (2, 0), (2, 82), (0, i)] [] (I2, RF sp rt tt z.1, z) (g1, g2) := by
  refine (T_345_1676 ..).trans ?_
  simp only [show w32 (i + 1) = i + 1 from w32_of (by omega) (by omega)]
  refine ci_t ⟨by omega, by omega⟩ ?_
  refine (if_pos ⟨by omega, by omega⟩).trans ?_
  refine bd_t h1 ?_
  refine (T_345_1685 ..).trans ?_
  simp only [show w32 (i + 1) = i + 1 from w32_of (by omega) (by omega)]
  refine ci_t ⟨by omega, by omega⟩ ?_
  refine (if_pos ⟨by omega, by omega⟩).trans ?_
  refine bd_t h2 ?_
  refine (T_345_1694 ..).trans ?_
  exact ci_t rfl rfl
theorem LS_38 {C : Cal} {I I1 I2 : Nat → Nat → Int} {sp rt : Nat} {tt : Nat → Nat} {z : Zs} {g1 g2 : Nat} {i v : Int} (hi : 0 ≤ i ∧ i + 8 ≤ (z.2.1 : Int) ∧ (z.2.1 : Int) ≤ 4096) (hg : g1 ≤ 600000 ∧ g2 ≤ 7302249) (h1 : C 161 [(2, 0), (0, z.2.2 (i + 1).toNat), (0, z.2.2 (i + 2).toNat), (0, z.2.2 (i + 3).toNat)] (I, RF sp rt tt z.1, z) = some (some (0, v), (I1, RF sp rt tt z.1, z))) (h2 : C 317 [(2, 82), (0, z.2.2 (i + 1).toNat), (0, z.2.2 (i + 2).toNat), (0, z.2.2 (i + 3).toNat)] (I1, RF sp rt tt z.1, z) = some (some (0, v), (I2, RF sp rt tt z.1, z))) : Run PG C 345 1699 [(4, 0), (2, 0), (2, 82), (0, i)] [] (I, RF sp rt tt z.1, z) (g1, g2) = Run PG C 345 2243 [(4, 0), (2, 0), (2, 82), (0, i)] [] (I2, RF sp rt tt z.1, z) (g1, g2) := by
  refine (T_345_1699 ..).trans ?_
  simp only [show w32 (i + 1) = i + 1 from w32_of (by omega) (by omega), show w32 (i + 2) = i + 2 from w32_of (by omega) (by omega), show w32 (i + 3) = i + 3 from w32_of (by omega) (by omega)]
  refine ci_t ⟨by omega, by omega⟩ ?_
  refine ci_t ⟨by omega, by omega⟩ ?_
  refine ci_t ⟨by omega, by omega⟩ ?_
  refine (if_pos ⟨by omega, by omega⟩).trans ?_
  refine bd_t h1 ?_
  refine (T_345_1718 ..).trans ?_
  simp only [show w32 (i + 1) = i + 1 from w32_of (by omega) (by omega), show w32 (i + 2) = i + 2 from w32_of (by omega) (by omega), show w32 (i + 3) = i + 3 from w32_of (by omega) (by omega)]
  refine ci_t ⟨by omega, by omega⟩ ?_
  refine ci_t ⟨by omega, by omega⟩ ?_
  refine ci_t ⟨by omega, by omega⟩ ?_
  refine (if_pos ⟨by omega, by omega⟩).trans ?_
  refine bd_t h2 ?_
  refine (T_345_1737 ..).trans ?_
  exact ci_t rfl rfl
theorem LS_39 {C : Cal} {I I1 I2 : Nat → Nat → Int} {sp rt : Nat} {tt : Nat → Nat} {z : Zs} {g1 g2 : Nat} {i v : Int} (hi : 0 ≤ i ∧ i + 8 ≤ (z.2.1 : Int) ∧ (z.2.1 : Int) ≤ 4096) (hg : g1 ≤ 600000 ∧ g2 ≤ 7302249) (h1 : C 163 [(2, 0), (0, z.2.2 (i + 1).toNat)] (I, RF sp rt tt z.1, z) = some (some (0, v), (I1, RF sp rt tt z.1, z))) (h2 : C 318 [(2, 82), (0, z.2.2 (i + 1).toNat)] (I1, RF sp rt tt z.1, z) = some (some (0, v), (I2, RF sp rt tt z.1, z))) : Run PG C 345 1742 [(4, 0), (2, 0), (2, 82), (0, i)] [] (I, RF sp rt tt z.1, z) (g1, g2) = Run PG C 345 2243 [(4, 0), (2, 0), (2, 82), (0, i)] [] (I2, RF sp rt tt z.1, z) (g1, g2) := by
  refine (T_345_1742 ..).trans ?_
  simp only [show w32 (i + 1) = i + 1 from w32_of (by omega) (by omega)]
  refine ci_t ⟨by omega, by omega⟩ ?_
  refine (if_pos ⟨by omega, by omega⟩).trans ?_
  refine bd_t h1 ?_
  refine (T_345_1751 ..).trans ?_
  simp only [show w32 (i + 1) = i + 1 from w32_of (by omega) (by omega)]
  refine ci_t ⟨by omega, by omega⟩ ?_
  refine (if_pos ⟨by omega, by omega⟩).trans ?_
  refine bd_t h2 ?_
  refine (T_345_1760 ..).trans ?_
  exact ci_t rfl rfl
theorem LS_40 {C : Cal} {I I1 I2 : Nat → Nat → Int} {sp rt : Nat} {tt : Nat → Nat} {z : Zs} {g1 g2 : Nat} {i v : Int} (hi : 0 ≤ i ∧ i + 8 ≤ (z.2.1 : Int) ∧ (z.2.1 : Int) ≤ 4096) (hg : g1 ≤ 600000 ∧ g2 ≤ 7302249) (h1 : C 165 [(2, 0), (0, z.2.2 (i + 1).toNat), (0, z.2.2 (i + 2).toNat), (0, z.2.2 (i + 3).toNat)] (I, RF sp rt tt z.1, z) = some (some (0, v), (I1, RF sp rt tt z.1, z))) (h2 : C 319 [(2, 82), (0, z.2.2 (i + 1).toNat), (0, z.2.2 (i + 2).toNat), (0, z.2.2 (i + 3).toNat)] (I1, RF sp rt tt z.1, z) = some (some (0, v), (I2, RF sp rt tt z.1, z))) : Run PG C 345 1765 [(4, 0), (2, 0), (2, 82), (0, i)] [] (I, RF sp rt tt z.1, z) (g1, g2) = Run PG C 345 2243 [(4, 0), (2, 0), (2, 82), (0, i)] [] (I2, RF sp rt tt z.1, z) (g1, g2) := by
  refine (T_345_1765 ..).trans ?_
  simp only [show w32 (i + 1) = i + 1 from w32_of (by omega) (by omega), show w32 (i + 2) = i + 2 from w32_of (by omega) (by omega), show w32 (i + 3) = i + 3 from w32_of (by omega) (by omega)]
  refine ci_t ⟨by omega, by omega⟩ ?_
  refine ci_t ⟨by omega, by omega⟩ ?_
  refine ci_t ⟨by omega, by omega⟩ ?_
  refine (if_pos ⟨by omega, by omega⟩).trans ?_
  refine bd_t h1 ?_
  refine (T_345_1784 ..).trans ?_
  simp only [show w32 (i + 1) = i + 1 from w32_of (by omega) (by omega), show w32 (i + 2) = i + 2 from w32_of (by omega) (by omega), show w32 (i + 3) = i + 3 from w32_of (by omega) (by omega)]
  refine ci_t ⟨by omega, by omega⟩ ?_
  refine ci_t ⟨by omega, by omega⟩ ?_
  refine ci_t ⟨by omega, by omega⟩ ?_
  refine (if_pos ⟨by omega, by omega⟩).trans ?_
  refine bd_t h2 ?_
  refine (T_345_1803 ..).trans ?_
  exact ci_t rfl rfl
theorem LS_41 {C : Cal} {I I1 I2 : Nat → Nat → Int} {sp rt : Nat} {tt : Nat → Nat} {z : Zs} {g1 g2 : Nat} {i v : Int} (hi : 0 ≤ i ∧ i + 8 ≤ (z.2.1 : Int) ∧ (z.2.1 : Int) ≤ 4096) (hg : g1 ≤ 600000 ∧ g2 ≤ 7302249) (h1 : C 169 [(2, 0), (0, z.2.2 (i + 1).toNat), (0, z.2.2 (i + 2).toNat)] (I, RF sp rt tt z.1, z) = some (some (0, v), (I1, RF sp rt tt z.1, z))) (h2 : C 321 [(2, 82), (0, z.2.2 (i + 1).toNat), (0, z.2.2 (i + 2).toNat)] (I1, RF sp rt tt z.1, z) = some (some (0, v), (I2, RF sp rt tt z.1, z))) : Run PG C 345 1808 [(4, 0), (2, 0), (2, 82), (0, i)] [] (I, RF sp rt tt z.1, z) (g1, g2) = Run PG C 345 2243 [(4, 0), (2, 0), (2, 82), (0, i)] [] (I2, RF sp rt tt z.1, z) (g1, g2) := by
  refine (T_345_1808 ..).trans ?_
  simp only [show w32 (i + 1) = i + 1 from w32_of (by omega) (by omega), show w32 (i + 2) = i + 2 from w32_of (by omega) (by omega)]
  refine ci_t ⟨by omega, by omega⟩ ?_
  refine ci_t ⟨by omega, by omega⟩ ?_
  refine (if_pos ⟨by omega, by omega⟩).trans ?_
  refine bd_t h1 ?_
  refine (T_345_1822 ..).trans ?_
  simp only [show w32 (i + 1) = i + 1 from w32_of (by omega) (by omega), show w32 (i + 2) = i + 2 from w32_of (by omega) (by omega)]
  refine ci_t ⟨by omega, by omega⟩ ?_
  refine ci_t ⟨by omega, by omega⟩ ?_
  refine (if_pos ⟨by omega, by omega⟩).trans ?_
  refine bd_t h2 ?_
  refine (T_345_1836 ..).trans ?_
  exact ci_t rfl rfl
theorem LS_42 {C : Cal} {I I1 I2 : Nat → Nat → Int} {sp rt : Nat} {tt : Nat → Nat} {z : Zs} {g1 g2 : Nat} {i v : Int} (hi : 0 ≤ i ∧ i + 8 ≤ (z.2.1 : Int) ∧ (z.2.1 : Int) ≤ 4096) (hg : g1 ≤ 600000 ∧ g2 ≤ 7302249) (h1 : C 172 [(2, 0), (0, z.2.2 (i + 1).toNat), (0, z.2.2 (i + 2).toNat), (0, z.2.2 (i + 3).toNat)] (I, RF sp rt tt z.1, z) = some (some (0, v), (I1, RF sp rt tt z.1, z))) (h2 : C 322 [(2, 82), (0, z.2.2 (i + 1).toNat), (0, z.2.2 (i + 2).toNat), (0, z.2.2 (i + 3).toNat)] (I1, RF sp rt tt z.1, z) = some (some (0, v), (I2, RF sp rt tt z.1, z))) : Run PG C 345 1841 [(4, 0), (2, 0), (2, 82), (0, i)] [] (I, RF sp rt tt z.1, z) (g1, g2) = Run PG C 345 2243 [(4, 0), (2, 0), (2, 82), (0, i)] [] (I2, RF sp rt tt z.1, z) (g1, g2) := by
  refine (T_345_1841 ..).trans ?_
  simp only [show w32 (i + 1) = i + 1 from w32_of (by omega) (by omega), show w32 (i + 2) = i + 2 from w32_of (by omega) (by omega), show w32 (i + 3) = i + 3 from w32_of (by omega) (by omega)]
  refine ci_t ⟨by omega, by omega⟩ ?_
  refine ci_t ⟨by omega, by omega⟩ ?_
  refine ci_t ⟨by omega, by omega⟩ ?_
  refine (if_pos ⟨by omega, by omega⟩).trans ?_
  refine bd_t h1 ?_
  refine (T_345_1860 ..).trans ?_
  simp only [show w32 (i + 1) = i + 1 from w32_of (by omega) (by omega), show w32 (i + 2) = i + 2 from w32_of (by omega) (by omega), show w32 (i + 3) = i + 3 from w32_of (by omega) (by omega)]
  refine ci_t ⟨by omega, by omega⟩ ?_
  refine ci_t ⟨by omega, by omega⟩ ?_
  refine ci_t ⟨by omega, by omega⟩ ?_
  refine (if_pos ⟨by omega, by omega⟩).trans ?_
  refine bd_t h2 ?_
  refine (T_345_1879 ..).trans ?_
  exact ci_t rfl rfl
theorem LS_43 {C : Cal} {I I1 I2 : Nat → Nat → Int} {sp rt : Nat} {tt : Nat → Nat} {z : Zs} {g1 g2 : Nat} {i v : Int} (hi : 0 ≤ i ∧ i + 8 ≤ (z.2.1 : Int) ∧ (z.2.1 : Int) ≤ 4096) (hg : g1 ≤ 600000 ∧ g2 ≤ 7302249) (h1 : C 174 [(2, 0), (0, z.2.2 (i + 1).toNat), (0, z.2.2 (i + 2).toNat)] (I, RF sp rt tt z.1, z) = some (some (0, v), (I1, RF sp rt tt z.1, z))) (h2 : C 323 [(2, 82), (0, z.2.2 (i + 1).toNat), (0, z.2.2 (i + 2).toNat)] (I1, RF sp rt tt z.1, z) = some (some (0, v), (I2, RF sp rt tt z.1, z))) : Run PG C 345 1884 [(4, 0), (2, 0), (2, 82), (0, i)] [] (I, RF sp rt tt z.1, z) (g1, g2) = Run PG C 345 2243 [(4, 0), (2, 0), (2, 82), (0, i)] [] (I2, RF sp rt tt z.1, z) (g1, g2) := by
  refine (T_345_1884 ..).trans ?_
  simp only [show w32 (i + 1) = i + 1 from w32_of (by omega) (by omega), show w32 (i + 2) = i + 2 from w32_of (by omega) (by omega)]
  refine ci_t ⟨by omega, by omega⟩ ?_
  refine ci_t ⟨by omega, by omega⟩ ?_
  refine (if_pos ⟨by omega, by omega⟩).trans ?_
  refine bd_t h1 ?_
  refine (T_345_1898 ..).trans ?_
  simp only [show w32 (i + 1) = i + 1 from w32_of (by omega) (by omega), show w32 (i + 2) = i + 2 from w32_of (by omega) (by omega)]
  refine ci_t ⟨by omega, by omega⟩ ?_
  refine ci_t ⟨by omega, by omega⟩ ?_
  refine (if_pos ⟨by omega, by omega⟩).trans ?_
  refine bd_t h2 ?_
  refine (T_345_1912 ..).trans ?_
  exact ci_t rfl rfl
theorem LS_44 {C : Cal} {I I1 I2 : Nat → Nat → Int} {sp rt : Nat} {tt : Nat → Nat} {z : Zs} {g1 g2 : Nat} {i v : Int} (hi : 0 ≤ i ∧ i + 8 ≤ (z.2.1 : Int) ∧ (z.2.1 : Int) ≤ 4096) (hg : g1 ≤ 600000 ∧ g2 ≤ 7302249) (h1 : C 177 [(2, 0), (0, z.2.2 (i + 1).toNat)] (I, RF sp rt tt z.1, z) = some (some (0, v), (I1, RF sp rt tt z.1, z))) (h2 : C 325 [(2, 82), (0, z.2.2 (i + 1).toNat)] (I1, RF sp rt tt z.1, z) = some (some (0, v), (I2, RF sp rt tt z.1, z))) : Run PG C 345 1917 [(4, 0), (2, 0), (2, 82), (0, i)] [] (I, RF sp rt tt z.1, z) (g1, g2) = Run PG C 345 2243 [(4, 0), (2, 0), (2, 82), (0, i)] [] (I2, RF sp rt tt z.1, z) (g1, g2) := by
  refine (T_345_1917 ..).trans ?_
  simp only [show w32 (i + 1) = i + 1 from w32_of (by omega) (by omega)]
  refine ci_t ⟨by omega, by omega⟩ ?_
  refine (if_pos ⟨by omega, by omega⟩).trans ?_
  refine bd_t h1 ?_
  refine (T_345_1926 ..).trans ?_
  simp only [show w32 (i + 1) = i + 1 from w32_of (by omega) (by omega)]
  refine ci_t ⟨by omega, by omega⟩ ?_
  refine (if_pos ⟨by omega, by omega⟩).trans ?_
  refine bd_t h2 ?_
  refine (T_345_1935 ..).trans ?_
  exact ci_t rfl rfl
theorem LS_45 {C : Cal} {I I1 I2 : Nat → Nat → Int} {sp rt : Nat} {tt : Nat → Nat} {z : Zs} {g1 g2 : Nat} {i v : Int} (hi : 0 ≤ i ∧ i + 8 ≤ (z.2.1 : Int) ∧ (z.2.1 : Int) ≤ 4096) (hg : g1 ≤ 600000 ∧ g2 ≤ 7302249) (h1 : C 179 [(2, 0), (0, z.2.2 (i + 1).toNat)] (I, RF sp rt tt z.1, z) = some (some (0, v), (I1, RF sp rt tt z.1, z))) (h2 : C 326 [(2, 82), (0, z.2.2 (i + 1).toNat)] (I1, RF sp rt tt z.1, z) = some (some (0, v), (I2, RF sp rt tt z.1, z))) : Run PG C 345 1940 [(4, 0), (2, 0), (2, 82), (0, i)] [] (I, RF sp rt tt z.1, z) (g1, g2) = Run PG C 345 2243 [(4, 0), (2, 0), (2, 82), (0, i)] [] (I2, RF sp rt tt z.1, z) (g1, g2) := by
  refine (T_345_1940 ..).trans ?_
  simp only [show w32 (i + 1) = i + 1 from w32_of (by omega) (by omega)]
  refine ci_t ⟨by omega, by omega⟩ ?_
  refine (if_pos ⟨by omega, by omega⟩).trans ?_
  refine bd_t h1 ?_
  refine (T_345_1949 ..).trans ?_
  simp only [show w32 (i + 1) = i + 1 from w32_of (by omega) (by omega)]
  refine ci_t ⟨by omega, by omega⟩ ?_
  refine (if_pos ⟨by omega, by omega⟩).trans ?_
  refine bd_t h2 ?_
  refine (T_345_1958 ..).trans ?_
  exact ci_t rfl rfl
theorem LS_46 {C : Cal} {I I1 I2 : Nat → Nat → Int} {sp rt : Nat} {tt : Nat → Nat} {z : Zs} {g1 g2 : Nat} {i v : Int} (hi : 0 ≤ i ∧ i + 8 ≤ (z.2.1 : Int) ∧ (z.2.1 : Int) ≤ 4096) (hg : g1 ≤ 600000 ∧ g2 ≤ 7302249) (h1 : C 181 [(2, 0), (0, z.2.2 (i + 1).toNat)] (I, RF sp rt tt z.1, z) = some (some (0, v), (I1, RF sp rt tt z.1, z))) (h2 : C 327 [(2, 82), (0, z.2.2 (i + 1).toNat)] (I1, RF sp rt tt z.1, z) = some (some (0, v), (I2, RF sp rt tt z.1, z))) : Run PG C 345 1963 [(4, 0), (2, 0), (2, 82), (0, i)] [] (I, RF sp rt tt z.1, z) (g1, g2) = Run PG C 345 2243 [(4, 0), (2, 0), (2, 82), (0, i)] [] (I2, RF sp rt tt z.1, z) (g1, g2) := by
  refine (T_345_1963 ..).trans ?_
  simp only [show w32 (i + 1) = i + 1 from w32_of (by omega) (by omega)]
  refine ci_t ⟨by omega, by omega⟩ ?_
  refine (if_pos ⟨by omega, by omega⟩).trans ?_
  refine bd_t h1 ?_
  refine (T_345_1972 ..).trans ?_
  simp only [show w32 (i + 1) = i + 1 from w32_of (by omega) (by omega)]
  refine ci_t ⟨by omega, by omega⟩ ?_
  refine (if_pos ⟨by omega, by omega⟩).trans ?_
  refine bd_t h2 ?_
  refine (T_345_1981 ..).trans ?_
  exact ci_t rfl rfl
theorem LS_47 {C : Cal} {I I1 I2 : Nat → Nat → Int} {sp rt : Nat} {tt : Nat → Nat} {z : Zs} {g1 g2 : Nat} {i v : Int} (hi : 0 ≤ i ∧ i + 8 ≤ (z.2.1 : Int) ∧ (z.2.1 : Int) ≤ 4096) (hg : g1 ≤ 600000 ∧ g2 ≤ 7302249) (h1 : C 183 [(2, 0), (0, z.2.2 (i + 1).toNat)] (I, RF sp rt tt z.1, z) = some (some (0, v), (I1, RF sp rt tt z.1, z))) (h2 : C 328 [(2, 82), (0, z.2.2 (i + 1).toNat)] (I1, RF sp rt tt z.1, z) = some (some (0, v), (I2, RF sp rt tt z.1, z))) : Run PG C 345 1986 [(4, 0), (2, 0), (2, 82), (0, i)] [] (I, RF sp rt tt z.1, z) (g1, g2) = Run PG C 345 2243 [(4, 0), (2, 0), (2, 82), (0, i)] [] (I2, RF sp rt tt z.1, z) (g1, g2) := by
  refine (T_345_1986 ..).trans ?_
  simp only [show w32 (i + 1) = i + 1 from w32_of (by omega) (by omega)]
  refine ci_t ⟨by omega, by omega⟩ ?_
  refine (if_pos ⟨by omega, by omega⟩).trans ?_
  refine bd_t h1 ?_
  refine (T_345_1995 ..).trans ?_
  simp only [show w32 (i + 1) = i + 1 from w32_of (by omega) (by omega)]
  refine ci_t ⟨by omega, by omega⟩ ?_
  refine (if_pos ⟨by omega, by omega⟩).trans ?_
  refine bd_t h2 ?_
  refine (T_345_2004 ..).trans ?_
  exact ci_t rfl rfl
theorem LS_48 {C : Cal} {I I1 I2 : Nat → Nat → Int} {sp rt : Nat} {tt : Nat → Nat} {z : Zs} {g1 g2 : Nat} {i v : Int} (hi : 0 ≤ i ∧ i + 8 ≤ (z.2.1 : Int) ∧ (z.2.1 : Int) ≤ 4096) (hg : g1 ≤ 600000 ∧ g2 ≤ 7302249) (h1 : C 185 [(2, 0), (0, z.2.2 (i + 1).toNat), (0, z.2.2 (i + 2).toNat), (0, z.2.2 (i + 3).toNat)] (I, RF sp rt tt z.1, z) = some (some (0, v), (I1, RF sp rt tt z.1, z))) (h2 : C 330 [(2, 82), (0, z.2.2 (i + 1).toNat), (0, z.2.2 (i + 2).toNat), (0, z.2.2 (i + 3).toNat)] (I1, RF sp rt tt z.1, z) = some (some (0, v), (I2, RF sp rt tt z.1, z))) : Run PG C 345 2009 [(4, 0), (2, 0), (2, 82), (0, i)] [] (I, RF sp rt tt z.1, z) (g1, g2) = Run PG C 345 2243 [(4, 0), (2, 0), (2, 82), (0, i)] [] (I2, RF sp rt tt z.1, z) (g1, g2) := by
  refine (T_345_2009 ..).trans ?_
  simp only [show w32 (i + 1) = i + 1 from w32_of (by omega) (by omega), show w32 (i + 2) = i + 2 from w32_of (by omega) (by omega), show w32 (i + 3) = i + 3 from w32_of (by omega) (by omega)]
  refine ci_t ⟨by omega, by omega⟩ ?_
  refine ci_t ⟨by omega, by omega⟩ ?_
  refine ci_t ⟨by omega, by omega⟩ ?_
  refine (if_pos ⟨by omega, by omega⟩).trans ?_
  refine bd_t h1 ?_
  refine (T_345_2028 ..).trans ?_
  simp only [show w32 (i + 1) = i + 1 from w32_of (by omega) (by omega), show w32 (i + 2) = i + 2 from w32_of (by omega) (by omega), show w32 (i + 3) = i + 3 from w32_of (by omega) (by omega)]
  refine ci_t ⟨by omega, by omega⟩ ?_
  refine ci_t ⟨by omega, by omega⟩ ?_
  refine ci_t ⟨by omega, by omega⟩ ?_
  refine (if_pos ⟨by omega, by omega⟩).trans ?_
  refine bd_t h2 ?_
  refine (T_345_2047 ..).trans ?_
  exact ci_t rfl rfl
theorem LS_49 {C : Cal} {I I1 I2 : Nat → Nat → Int} {sp rt : Nat} {tt : Nat → Nat} {z : Zs} {g1 g2 : Nat} {i v : Int} (hi : 0 ≤ i ∧ i + 8 ≤ (z.2.1 : Int) ∧ (z.2.1 : Int) ≤ 4096) (hg : g1 ≤ 600000 ∧ g2 ≤ 7302249) (h1 : C 191 [(2, 0), (0, z.2.2 (i + 1).toNat), (0, z.2.2 (i + 2).toNat)] (I, RF sp rt tt z.1, z) = some (some (0, v), (I1, RF sp rt tt z.1, z))) (h2 : C 332 [(2, 82), (0, z.2.2 (i + 1).toNat), (0, z.2.2 (i + 2).toNat)] (I1, RF sp rt tt z.1, z) = some (some (0, v), (I2, RF sp rt tt z.1, z))) : Run PG C 345 2052 [(4, 0), (2, 0), (2, 82), (0, i)] [] (I, RF sp rt tt z.1, z) (g1, g2) = Run PG C 345 2243 [(4, 0), (2, 0), (2, 82), (0, i)] [] (I2, RF sp rt tt z.1, z) (g1, g2) := by
  refine (T_345_2052 ..).trans ?_
  simp only [show w32 (i + 1) = i + 1 from w32_of (by omega) (by omega), show w32 (i + 2) = i + 2 from w32_of (by omega) (by omega)]
  refine ci_t ⟨by omega, by omega⟩ ?_
  refine ci_t ⟨by omega, by omega⟩ ?_
  refine (if_pos ⟨by omega, by omega⟩).trans ?_
  refine bd_t h1 ?_
  refine (T_345_2066 ..).trans ?_
  simp only [show w32 (i + 1) = i + 1 from w32_of (by omega) (by omega), show w32 (i + 2) = i + 2 from w32_of (by omega) (by omega)]
  refine ci_t ⟨by omega, by omega⟩ ?_
  refine ci_t ⟨by omega, by omega⟩ ?_
  refine (if_pos ⟨by omega, by omega⟩).trans ?_
  refine bd_t h2 ?_
  refine (T_345_2080 ..).trans ?_
  exact ci_t rfl rfl
theorem LS_50 {C : Cal} {I I1 I2 : Nat → Nat → Int} {sp rt : Nat} {tt : Nat → Nat} {z : Zs} {g1 g2 : Nat} {i v : Int} (hi : 0 ≤ i ∧ i + 8 ≤ (z.2.1 : Int) ∧ (z.2.1 : Int) ≤ 4096) (hg : g1 ≤ 600000 ∧ g2 ≤ 7302249) (h1 : C 193 [(2, 0), (0, z.2.2 (i + 1).toNat), (0, z.2.2 (i + 2).toNat), (0, z.2.2 (i + 3).toNat)] (I, RF sp rt tt z.1, z) = some (some (0, v), (I1, RF sp rt tt z.1, z))) (h2 : C 333 [(2, 82), (0, z.2.2 (i + 1).toNat), (0, z.2.2 (i + 2).toNat), (0, z.2.2 (i + 3).toNat)] (I1, RF sp rt tt z.1, z) = some (some (0, v), (I2, RF sp rt tt z.1, z))) : Run PG C 345 2085 [(4, 0), (2, 0), (2, 82), (0, i)] [] (I, RF sp rt tt z.1, z) (g1, g2) = Run PG C 345 2243 [(4, 0), (2, 0), (2, 82), (0, i)] [] (I2, RF sp rt tt z.1, z) (g1, g2) := by
  refine (T_345_2085 ..).trans ?_
  simp only [show w32 (i + 1) = i + 1 from w32_of (by omega) (by omega), show w32 (i + 2) = i + 2 from w32_of (by omega) (by omega), show w32 (i + 3) = i + 3 from w32_of (by omega) (by omega)]
  refine ci_t ⟨by omega, by omega⟩ ?_
  refine ci_t ⟨by omega, by omega⟩ ?_
  refine ci_t ⟨by omega, by omega⟩ ?_
  refine (if_pos ⟨by omega, by omega⟩).trans ?_
  refine bd_t h1 ?_
  refine (T_345_2104 ..).trans ?_
  simp only [show w32 (i + 1) = i + 1 from w32_of (by omega) (by omega), show w32 (i + 2) = i + 2 from w32_of (by omega) (by omega), show w32 (i + 3) = i + 3 from w32_of (by omega) (by omega)]
  refine ci_t ⟨by omega, by omega⟩ ?_
  refine ci_t ⟨by omega, by omega⟩ ?_
  refine ci_t ⟨by omega, by omega⟩ ?_
  refine (if_pos ⟨by omega, by omega⟩).trans ?_
  refine bd_t h2 ?_
  refine (T_345_2123 ..).trans ?_
  exact ci_t rfl rfl
theorem LS_51 {C : Cal} {I I1 I2 : Nat → Nat → Int} {sp rt : Nat} {tt : Nat → Nat} {z : Zs} {g1 g2 : Nat} {i v : Int} (hi : 0 ≤ i ∧ i + 8 ≤ (z.2.1 : Int) ∧ (z.2.1 : Int) ≤ 4096) (hg : g1 ≤ 600000 ∧ g2 ≤ 7302249) (h1 : C 195 [(2, 0), (0, z.2.2 (i + 1).toNat)] (I, RF sp rt tt z.1, z) = some (some (0, v), (I1, RF sp rt tt z.1, z))) (h2 : C 334 [(2, 82), (0, z.2.2 (i + 1).toNat)] (I1, RF sp rt tt z.1, z) = some (some (0, v), (I2, RF sp rt tt z.1, z))) : Run PG C 345 2128 [(4, 0), (2, 0), (2, 82), (0, i)] [] (I, RF sp rt tt z.1, z) (g1, g2) = Run PG C 345 2243 [(4, 0), (2, 0), (2, 82), (0, i)] [] (I2, RF sp rt tt z.1, z) (g1, g2) := by
  refine (T_345_2128 ..).trans ?_
  simp only [show w32 (i + 1) = i + 1 from w32_of (by omega) (by omega)]
  refine ci_t ⟨by omega, by omega⟩ ?_
  refine (if_pos ⟨by omega, by omega⟩).trans ?_
  refine bd_t h1 ?_
  refine (T_345_2137 ..).trans ?_
  simp only [show w32 (i + 1) = i + 1 from w32_of (by omega) (by omega)]
  refine ci_t ⟨by omega, by omega⟩ ?_
  refine (if_pos ⟨by omega, by omega⟩).trans ?_
  refine bd_t h2 ?_
  refine (T_345_2146 ..).trans ?_
  exact ci_t rfl rfl
theorem LS_52 {C : Cal} {I I1 I2 : Nat → Nat → Int} {sp rt : Nat} {tt : Nat → Nat} {z : Zs} {g1 g2 : Nat} {i v : Int} (hi : 0 ≤ i ∧ i + 8 ≤ (z.2.1 : Int) ∧ (z.2.1 : Int) ≤ 4096) (hg : g1 ≤ 600000 ∧ g2 ≤ 7302249) (h1 : C 197 [(2, 0), (0, z.2.2 (i + 1).toNat)] (I, RF sp rt tt z.1, z) = some (some (0, v), (I1, RF sp rt tt z.1, z))) (h2 : C 335 [(2, 82), (0, z.2.2 (i + 1).toNat)] (I1, RF sp rt tt z.1, z) = some (some (0, v), (I2, RF sp rt tt z.1, z))) : Run PG C 345 2151 [(4, 0), (2, 0), (2, 82), (0, i)] [] (I, RF sp rt tt z.1, z) (g1, g2) = Run PG C 345 2243 [(4, 0), (2, 0), (2, 82), (0, i)] [] (I2, RF sp rt tt z.1, z) (g1, g2) := by
  refine (T_345_2151 ..).trans ?_
  simp only [show w32 (i + 1) = i + 1 from w32_of (by omega) (by omega)]
  refine ci_t ⟨by omega, by omega⟩ ?_
  refine (if_pos ⟨by omega, by omega⟩).trans ?_
  refine bd_t h1 ?_
  refine (T_345_2160 ..).trans ?_
  simp only [show w32 (i + 1) = i + 1 from w32_of (by omega) (by omega)]
  refine ci_t ⟨by omega, by omega⟩ ?_
  refine (if_pos ⟨by omega, by omega⟩).trans ?_
  refine bd_t h2 ?_
  refine (T_345_2169 ..).trans ?_
  exact ci_t rfl rfl
theorem LS_53 {C : Cal} {I I1 I2 : Nat → Nat → Int} {sp rt : Nat} {tt : Nat → Nat} {z : Zs} {g1 g2 : Nat} {i v : Int} (hi : 0 ≤ i ∧ i + 8 ≤ (z.2.1 : Int) ∧ (z.2.1 : Int) ≤ 4096) (hg : g1 ≤ 600000 ∧ g2 ≤ 7302249) (h1 : C 202 [(2, 0)] (I, RF sp rt tt z.1, z) = some (some (0, v), (I1, RF sp rt tt z.1, z))) (h2 : C 339 [(2, 82)] (I1, RF sp rt tt z.1, z) = some (some (0, v), (I2, RF sp rt tt z.1, z))) : Run PG C 345 2174 [(4, 0), (2, 0), (2, 82), (0, i)] [] (I, RF sp rt tt z.1, z) (g1, g2) = Run PG C 345 2243 [(4, 0), (2, 0), (2, 82), (0, i)] [] (I2, RF sp rt tt z.1, z) (g1, g2) := by
  refine (T_345_2174 ..).trans ?_
  refine (if_pos ⟨by omega, by omega⟩).trans ?_
  refine bd_t h1 ?_
  refine (T_345_2178 ..).trans ?_
  refine (if_pos ⟨by omega, by omega⟩).trans ?_
  refine bd_t h2 ?_
  refine (T_345_2182 ..).trans ?_
  exact ci_t rfl rfl
theorem LS_54 {C : Cal} {I I1 I2 : Nat → Nat → Int} {sp rt : Nat} {tt : Nat → Nat} {z : Zs} {g1 g2 : Nat} {i v : Int} (hi : 0 ≤ i ∧ i + 8 ≤ (z.2.1 : Int) ∧ (z.2.1 : Int) ≤ 4096) (hg : g1 ≤ 600000 ∧ g2 ≤ 7302249) (h1 : C 205 [(2, 0), (0, z.2.2 (i + 1).toNat), (0, z.2.2 (i + 2).toNat)] (I, RF sp rt tt z.1, z) = some (some (0, v), (I1, RF sp rt tt z.1, z))) (h2 : C 341 [(2, 82), (0, z.2.2 (i + 1).toNat), (0, z.2.2 (i + 2).toNat)] (I1, RF sp rt tt z.1, z) = some (some (0, v), (I2, RF sp rt tt z.1, z))) : Run PG C 345 2187 [(4, 0), (2, 0), (2, 82), (0, i)] [] (I, RF sp rt tt z.1, z) (g1, g2) = Run PG C 345 2243 [(4, 0), (2, 0), (2, 82), (0, i)] [] (I2, RF sp rt tt z.1, z) (g1, g2) := by
  refine (T_345_2187 ..).trans ?_
  simp only [show w32 (i + 1) = i + 1 from w32_of (by omega) (by omega), show w32 (i + 2) = i + 2 from w32_of (by omega) (by omega)]
  refine ci_t ⟨by omega, by omega⟩ ?_
  refine ci_t ⟨by omega, by omega⟩ ?_
  refine (if_pos ⟨by omega, by omega⟩).trans ?_
  refine bd_t h1 ?_
  refine (T_345_2201 ..).trans ?_
  simp only [show w32 (i + 1) = i + 1 from w32_of (by omega) (by omega), show w32 (i + 2) = i + 2 from w32_of (by omega) (by omega)]
  refine ci_t ⟨by omega, by omega⟩ ?_
  refine ci_t ⟨by omega, by omega⟩ ?_
  refine (if_pos ⟨by omega, by omega⟩).trans ?_
  refine bd_t h2 ?_
  refine (T_345_2215 ..).trans ?_
  exact ci_t rfl rfl
theorem LS_55 {C : Cal} {I I1 I2 : Nat → Nat → Int} {sp rt : Nat} {tt : Nat → Nat} {z : Zs} {g1 g2 : Nat} {i v : Int} (hi : 0 ≤ i ∧ i + 8 ≤ (z.2.1 : Int) ∧ (z.2.1 : Int) ≤ 4096) (hg : g1 ≤ 600000 ∧ g2 ≤ 7302249) (h1 : C 206 [(2, 0), (0, z.2.2 (i + 1).toNat)] (I, RF sp rt tt z.1, z) = some (some (0, v), (I1, RF sp rt tt z.1, z))) (h2 : C 342 [(2, 82), (0, z.2.2 (i + 1).toNat)] (I1, RF sp rt tt z.1, z) = some (some (0, v), (I2, RF sp rt tt z.1, z))) : Run PG C 345 2220 [(4, 0), (2, 0), (2, 82), (0, i)] [] (I, RF sp rt tt z.1, z) (g1, g2) = Run PG C 345 2243 [(4, 0), (2, 0), (2, 82), (0, i)] [] (I2, RF sp rt tt z.1, z) (g1, g2) := by
  refine (T_345_2220 ..).trans ?_
  simp only [show w32 (i + 1) = i + 1 from w32_of (by omega) (by omega)]
  refine ci_t ⟨by omega, by omega⟩ ?_
  refine (if_pos ⟨by omega, by omega⟩).trans ?_
  refine bd_t h1 ?_
  refine (T_345_2229 ..).trans ?_
  simp only [show w32 (i + 1) = i + 1 from w32_of (by omega) (by omega)]
  refine ci_t ⟨by omega, by omega⟩ ?_
  refine (if_pos ⟨by omega, by omega⟩).trans ?_
  refine bd_t h2 ?_
  refine (T_345_2238 ..).trans ?_
  exact ci_t rfl rfl
end LT1
