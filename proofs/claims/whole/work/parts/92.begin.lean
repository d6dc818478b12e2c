/-! both are built: the law comes to its loop -/
noncomputable def F345 (pc : Nat) : Ins := Bool.rec (motive := fun _ => Ins) (lkb cd_345_0 pc) (Bool.rec (motive := fun _ => Ins) (lkb cd_345_1 pc) (Bool.rec (motive := fun _ => Ins) (lkb cd_345_2 pc) (Bool.rec (motive := fun _ => Ins) (lkb cd_345_3 pc) (Bool.rec (motive := fun _ => Ins) (lkb cd_345_4 pc) (Bool.rec (motive := fun _ => Ins) (lkb cd_345_5 pc) (Bool.rec (motive := fun _ => Ins) (lkb cd_345_6 pc) (Bool.rec (motive := fun _ => Ins) (lkb cd_345_7 pc) (lkb cd_345_8 pc) (Nat.ble 2204 pc)) (Nat.ble 1950 pc)) (Nat.ble 1706 pc)) (Nat.ble 1452 pc)) (Nat.ble 1216 pc)) (Nat.ble 974 pc)) (Nat.ble 718 pc)) (Nat.ble 476 pc)
theorem CD_345 : ∀ pc, PG.2.1 345 pc = F345 pc := fun pc => (lk_ap (a := cd_345_0) (c := 476) (q := pc) (by decide +kernel) (by decide +kernel) (lk_ap (a := cd_345_1) (c := 718) (q := pc) (by decide +kernel) (by decide +kernel) (lk_ap (a := cd_345_2) (c := 974) (q := pc) (by decide +kernel) (by decide +kernel) (lk_ap (a := cd_345_3) (c := 1216) (q := pc) (by decide +kernel) (by decide +kernel) (lk_ap (a := cd_345_4) (c := 1452) (q := pc) (by decide +kernel) (by decide +kernel) (lk_ap (a := cd_345_5) (c := 1706) (q := pc) (by decide +kernel) (by decide +kernel) (lk_ap (a := cd_345_6) (c := 1950) (q := pc) (by decide +kernel) (by decide +kernel) (lk_ap (a := cd_345_7) (c := 2204) (q := pc) (by decide +kernel) (by decide +kernel) (lkb_eq cd_345_8 pc)))))))) : lk cd_345 pc = F345 pc)
section ST0
variable {I R : Nat → Nat → Int} {zz : Nat × (Nat → Int)}
set_option maxRecDepth 400000 in
theorem L_0 (C : Cal) : Run PG C 345 0 [(4, 0), (9, 0), (9, 0), (9, 0)] [] (I, R, 0, zz) (0, 0) = bd (C 0 [(2, 0)] (I, R, 1, zz)) (fun v h => Run PG C 345 7 [(4, 0), (9, 0), (9, 0), (9, 0)] (v.toList ++ [(2, 0)]) h (82, 7816)) := (rt_eq CD_345 [] 3 0 _ _ _ _).trans (Eq.refl _)
set_option maxRecDepth 400000 in
theorem L_7 (C : Cal) : Run PG C 345 7 [(4, 0), (9, 0), (9, 0), (9, 0)] [(2, 0)] (I, R, 82, zz) (82, 7816) = bd (C 207 [(2, 82)] (I, R, 83, zz)) (fun v h => Run PG C 345 15 [(4, 0), (2, 0), (9, 0), (9, 0)] (v.toList ++ [(2, 82)]) h (163, 35117)) := (rt_eq CD_345 [] 4 7 _ _ _ _).trans (Eq.refl _)
set_option maxRecDepth 400000 in
theorem L_15 (C : Cal) : Run PG C 345 15 [(4, 0), (2, 0), (9, 0), (9, 0)] [(2, 82)] (I, R, 163, zz) (163, 35117) = Run PG C 345 18 [(4, 0), (2, 0), (2, 82), (0, 0)] [] (I, R, 163, zz) (163, 35117) := (rt_eq CD_345 [] 3 15 _ _ _ _).trans (Eq.refl _)
theorem START (d : Nat) : Call PG (d + 4) 345 [(4, 0)] ((fun _ _ => 0, fun _ _ => 0, 0, zz) : Hp) = Run PG (Call PG (d + 3)) 345 18 [(4, 0), (2, 0), (2, 82), (0, 0)] [] (IC1, RF 13 0 (fun _ => 0) 163, 163, zz) (163, 35117) := by
  have h0 : Call PG (d + 3) 0 [(2, 0)] ((fun _ _ => 0, fun _ _ => 0, 1, zz) : Hp) = some (none, (IC0, up3 LC0 (fun _ _ => 0), 82, zz)) := N_0 d (fun _ _ => 0) (fun _ _ => 0) zz
  have h1 : Call PG (d + 3) 207 [(2, 82)] (IC0, up3 LC0 (fun _ _ => 0), 83, zz) = some (none, (IC1, up3 LC1 (up3 LC0 (fun _ _ => 0)), 163, zz)) := N_207 (d + 2) IC0 (up3 LC0 (fun _ _ => 0)) zz
  rw [LC_RF] at h1
  refine (Call_s ..).trans ?_
  refine (L_0 (Call PG (d + 3))).trans ?_
  refine bd_t h0 ?_
  refine (L_7 (Call PG (d + 3))).trans ?_
  refine bd_t h1 ?_
  exact L_15 (Call PG (d + 3))
end ST0

