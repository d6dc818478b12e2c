/-! both programs' counts of bits -/
theorem land_le {x y : Nat} : Nat.land x y ≤ x := Nat.and_le_left
theorem ush_n {x k : Nat} (hx : x < 2147483648) (hk : k < 32) : ush32 (x : Int) (k : Int) = ((x / 2 ^ k : Nat) : Int) := by
  have e1 : ((k : Int) % 32).toNat = k := by omega
  have e2 : (x : Int) % 4294967296 = x := by omega
  have h2 : x / 2 ^ k ≤ x := Nat.div_le_self _ _
  have e3 : ((x : Int) / 2 ^ k) = ((x / 2 ^ k : Nat) : Int) := by rw [Int.natCast_ediv, Int.natCast_pow]; rfl
  show w32 (((x : Int) % 4294967296) / 2 ^ ((k : Int) % 32).toNat) = _
  rw [e1, e2, e3]
  generalize x / 2 ^ k = q at *
  exact w32_of (by omega) (by omega)
section PO
variable {d : Nat} {I : Nat → Nat → Int} {sp rt : Nat} {tt : Nat → Nat} {z : Zs}
theorem sw1_e {x : Nat} (h : x < 65536) : w32 ((x : Int) - ia32 (ush32 (x : Int) 1) 1431655765) = ((sw1 x : Nat) : Int) ∧ sw1 x < 65536 := by
  have e := ush_n (x := x) (k := 1) (by omega) (by omega)
  have l := land_le (x := x / 2 ^ 1) (y := 1431655765)
  rw [show ush32 (x : Int) 1 = ((x / 2 ^ 1 : Nat) : Int) from e, show ia32 ((x / 2 ^ 1 : Nat) : Int) 1431655765 = ((Nat.land (x / 2 ^ 1) 1431655765 : Nat) : Int) from ia_n (y := 1431655765) (by omega) (by omega)]
  have e2 : sw1 x = x - Nat.land (x / 2 ^ 1) 1431655765 := rfl
  rw [e2, w32_of (by omega) (by omega)]
  omega
theorem sw2_e {y : Nat} (h : y < 65536) : w32 (ia32 (y : Int) 858993459 + ia32 (ush32 (y : Int) 2) 858993459) = ((sw2 y : Nat) : Int) ∧ sw2 y < 131072 := by
  have l1 := land_le (x := y) (y := 858993459)
  have l2 := land_le (x := y / 2 ^ 2) (y := 858993459)
  rw [show ush32 (y : Int) 2 = ((y / 2 ^ 2 : Nat) : Int) from ush_n (k := 2) (by omega) (by omega), show ia32 ((y / 2 ^ 2 : Nat) : Int) 858993459 = ((Nat.land (y / 2 ^ 2) 858993459 : Nat) : Int) from ia_n (y := 858993459) (by omega) (by omega), show ia32 (y : Int) 858993459 = ((Nat.land y 858993459 : Nat) : Int) from ia_n (y := 858993459) (by omega) (by omega)]
  have e2 : sw2 y = Nat.land y 858993459 + Nat.land (y / 2 ^ 2) 858993459 := rfl
  rw [e2, w32_of (by omega) (by omega)]
  omega
theorem sw3_e {y : Nat} (h : y < 131072) : ia32 (w32 ((y : Int) + ush32 (y : Int) 4)) 252645135 = ((sw3 y : Nat) : Int) ∧ sw3 y < 262144 := by
  have l1 := land_le (x := y + y / 2 ^ 4) (y := 252645135)
  rw [show ush32 (y : Int) 4 = ((y / 2 ^ 4 : Nat) : Int) from ush_n (k := 4) (by omega) (by omega), w32_of (by omega) (by omega), show (y : Int) + ((y / 2 ^ 4 : Nat) : Int) = ((y + y / 2 ^ 4 : Nat) : Int) from (Int.natCast_add _ _).symm]
  have e2 : sw3 y = Nat.land (y + y / 2 ^ 4) 252645135 := rfl
  exact ⟨ia_n (y := 252645135) (by omega) (by omega), by omega⟩
theorem sw4_e {y : Nat} (h : y < 262144) : w32 ((y : Int) + ush32 (y : Int) 8) = ((sw4 y : Nat) : Int) ∧ sw4 y < 524288 := by
  rw [show ush32 (y : Int) 8 = ((y / 2 ^ 8 : Nat) : Int) from ush_n (k := 8) (by omega) (by omega), w32_of (by omega) (by omega)]
  have e2 : sw4 y = y + y / 2 ^ 8 := rfl
  omega
theorem sw5_e {y : Nat} (h : y < 524288) : ia32 (w32 ((y : Int) + ush32 (y : Int) 16)) 63 = ((sw5 y : Nat) : Int) := by
  rw [show ush32 (y : Int) 16 = ((y / 2 ^ 16 : Nat) : Int) from ush_n (k := 16) (by omega) (by omega), w32_of (by omega) (by omega), show (y : Int) + ((y / 2 ^ 16 : Nat) : Int) = ((y + y / 2 ^ 16 : Nat) : Int) from (Int.natCast_add _ _).symm]
  exact ia_n (y := 63) (by omega) (by omega)
theorem S_343 {x : Nat} (h : x < 65536) : Call PG (d + 1) 343 [(0, (x : Int))] (I, RF sp rt tt z.1, z) = some (some (0, (popN x : Int)), (I, RF sp rt tt z.1, z)) := by
  refine (K_343 ..).trans ((T_343_0 ..).trans (eqv ?_))
  have e1 := sw1_e h
  have e2 := sw2_e e1.2
  have e3 := sw3_e e2.2
  have e4 := sw4_e e3.2
  rw [e1.1, e2.1, e3.1, e4.1, sw5_e e4.2, swc_at h]
theorem S_340 {x : Nat} (h : x < 65536) : Call PG (d + 1) 340 [(0, (x : Int))] (I, RF sp rt tt z.1, z) = some (some (0, (popN x : Int)), (I, RF sp rt tt z.1, z)) := by
  refine (K_340 ..).trans ((T_340_0 ..).trans ?_)
  have hp : ∀ y, y < 65536 → popN y ≤ 16 := fun y _ => by unfold popN; omega
  have g : ∀ n y c : Nat, y < 65536 → popN y = n → c + n ≤ 16 → Run PG (Call PG d) 340 4 [(0, (x : Int)), (0, (c : Int)), (0, (y : Int))] [] (I, RF sp rt tt z.1, z) (0, 0) = some (some (0, ((c + n : Nat) : Int)), (I, RF sp rt tt z.1, z)) := by
    intro n
    induction n with
    | zero =>
      intro y c hy hn hc
      refine (T_340_4 ..).trans ?_
      by_cases c0 : y = 0
      · exact ci_t (by omega) rfl
      · have := pop_k hy c0; omega
    | succ n ih =>
      intro y c hy hn hc
      refine (T_340_4 ..).trans ?_
      have p0 : popN 0 = 0 := rfl
      have c0 : ¬ y = 0 := fun q => by rw [q] at hn; omega
      have l := land_le (x := y) (y := y - 1)
      refine ci_f (by omega) ?_
      rw [w32_of (x := (y : Int) - 1) (by omega) (by omega), show (y : Int) - 1 = ((y - 1 : Nat) : Int) by omega, show ia32 (y : Int) ((y - 1 : Nat) : Int) = ((Nat.land y (y - 1) : Nat) : Int) from ia_n (by omega) (by omega), ws_n (by omega)]
      have := ih (Nat.land y (y - 1)) (c + 1) (by omega) (by have := pop_k hy c0; omega) (by omega)
      rw [show c + 1 + n = c + (n + 1) by omega] at this
      exact this
  have := g (popN x) x 0 h rfl (by have := hp x h; omega)
  rw [Nat.zero_add] at this
  exact this
end PO

