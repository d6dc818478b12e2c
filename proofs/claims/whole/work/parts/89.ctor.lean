/-! the constructors -/
def up3 : List (Nat × Nat × Nat) → (Nat → Nat → Int) → (Nat → Nat → Int)
  | [], f => f
  | t :: l, f => up2 (up3 l f) t.1 t.2.1 ((t.2.2 : Nat) : Int)
theorem up3_app {f : Nat → Nat → Int} : ∀ {l l' : List (Nat × Nat × Nat)}, up3 l (up3 l' f) = up3 (l ++ l') f
  | [], _ => rfl
  | t :: l, l' => by
    show up2 (up3 l (up3 l' f)) _ _ _ = up2 (up3 (l ++ l') f) _ _ _
    rw [up3_app]
section CT0
variable {d : Nat} {I R : Nat → Nat → Int} {zz : Nat × (Nat → Int)} {N : Nat}
theorem G344_0 (C : Cal) (y : Zt) (x0 : Nat) (x1 : Int) : Run PG C 344 0 [(2, ((x0 : Nat) : Int)), (0, x1), (9, 0), (9, 0)] [] (I, y) (0, 0) = (if 20 ≤ (LAY x0).1 ∧ (LAY x0).1 ≤ 24 then Run PG C 344 5 [(2, ((x0 : Nat) : Int)), (0, x1), (0, 0), (0, ((LAY x0).2 : Int))] [] (I, y) (0, 0) else none) := (rt_eq CD_344 [5] 7 0 _ _ _ _).trans (Eq.refl _)
theorem G344_5 (C : Cal) (J : Nat → Nat → Int) (y : Zt) (x0 : Nat) (x1 : Int) (x2 : Int) (x3 : Int) : Run PG C 344 5 [(2, ((x0 : Nat) : Int)), (0, x1), (0, x2), (0, x3)] [] (J, y) (0, 0) = (ci (x2 < x3) (if (LAY x0).1 = 20 then (ci (0 ≤ x2 ∧ x2 < ((LAY x0).2 : Int)) (Run PG C 344 5 [(2, ((x0 : Nat) : Int)), (0, x1), (0, w32 (x2 + 1)), (0, x3)] [] (up2 J x0 x2.toNat x1, y) (0, 0)) none) else none) (some (none, (J, y)))) := (rt_eq CD_344 [5] 11 5 _ _ _ _).trans (Eq.refl _)
theorem G_344 {c n : Nat} {v : Int} {y : Zt} (hl : LAY c = (20, n)) (hn : n ≤ 5000) : Call PG (d + 1) 344 [(2, ((c : Nat) : Int)), (0, v)] (I, y) = some (none, (pc I c (fl (I c) n v), y)) := by
  have l1 : (LAY c).1 = 20 := by rw [hl]
  have l2 : ((LAY c).2 : Int) = n := by rw [hl]
  refine (K_344 ..).trans ?_
  refine (G344_0 ..).trans ?_
  refine ite_t (by omega) ?_
  rw [l2]
  have h := loop_p (fun (i : Nat) (f : Nat → Int) => ud f i v) (fun (i : Nat) (f : Nat → Int) => Run PG (Call PG d) 344 5 [(2, ((c : Nat) : Int)), (0, v), (0, (i : Int)), (0, (n : Int))] [] (pc I c f, y) (0, 0) = some (none, (pc I c (fl (I c) n v), y))) n (I c) ?_ ?_
  · rw [pc_self] at h; exact h
  · intro i f hi hf ih
    refine (G344_5 ..).trans ?_
    refine ci_t (by omega) ?_
    refine ite_t l1 ?_
    refine ci_t (by omega) ?_
    rw [w32_of (by omega) (by omega), up2_pc]
    exact ih
  · have e : ∀ i, itr (fun (i : Nat) (f : Nat → Int) => ud f i v) i (I c) = fl (I c) i v := by
      intro i
      induction i with
      | zero => exact fl_0.symm
      | succ i ih => show ud (itr _ i (I c)) i v = _; rw [ih, fl_s]
    rw [e]
    refine (G344_5 ..).trans ?_
    exact ci_f (by omega) rfl

set_option maxRecDepth 20000 in
theorem CT_1_0 (C : Cal) : Run PG C 1 0 [(2, 2)] [] (I, R, 3, zz) (0, 0) = Run PG C 1 12 [(2, 2)] [] (I, up3 [(2, 0, 4)] R, 4, zz) (1, 12) := (rt_eq CD_1 [] 6 0 _ _ _ _).trans (Eq.refl _)
set_option maxRecDepth 20000 in
theorem CT_1_12 (C : Cal) : Run PG C 1 12 [(2, 2)] [] (I, R, 4, zz) (1, 12) = Run PG C 1 20 [(2, 2)] [] (I, up3 [(2, 1, 5)] R, 5, zz) (2, 24) := (rt_eq CD_1 [] 4 12 _ _ _ _).trans (Eq.refl _)
set_option maxRecDepth 20000 in
theorem CT_1_20 (C : Cal) : Run PG C 1 20 [(2, 2)] [] (I, R, 5, zz) (2, 24) = Run PG C 1 28 [(2, 2)] [] (I, up3 [(2, 2, 6)] R, 6, zz) (3, 36) := (rt_eq CD_1 [] 4 20 _ _ _ _).trans (Eq.refl _)
set_option maxRecDepth 20000 in
theorem CT_1_28 (C : Cal) : Run PG C 1 28 [(2, 2)] [] (I, R, 6, zz) (3, 36) = Run PG C 1 36 [(2, 2)] [] (I, up3 [(2, 3, 7)] R, 7, zz) (4, 48) := (rt_eq CD_1 [] 4 28 _ _ _ _).trans (Eq.refl _)
set_option maxRecDepth 20000 in
theorem CT_1_36 (C : Cal) : Run PG C 1 36 [(2, 2)] [] (I, R, 7, zz) (4, 48) = Run PG C 1 44 [(2, 2)] [] (I, up3 [(2, 4, 8)] R, 8, zz) (5, 60) := (rt_eq CD_1 [] 4 36 _ _ _ _).trans (Eq.refl _)
set_option maxRecDepth 20000 in
theorem CT_1_44 (C : Cal) : Run PG C 1 44 [(2, 2)] [] (I, R, 8, zz) (5, 60) = Run PG C 1 52 [(2, 2)] [] (I, up3 [(2, 5, 9)] R, 9, zz) (6, 72) := (rt_eq CD_1 [] 4 44 _ _ _ _).trans (Eq.refl _)
set_option maxRecDepth 20000 in
theorem CT_1_52 (C : Cal) : Run PG C 1 52 [(2, 2)] [] (I, R, 9, zz) (6, 72) = some (none, (I, up3 [] R, 9, zz)) := (rt_eq CD_1 [] 1 52 _ _ _ _).trans (Eq.refl _)
theorem N_1 (d : Nat) (I R : Nat → Nat → Int) (zz : Nat × (Nat → Int)) : Call PG (d + 1) 1 [(2, 2)] (I, R, 3, zz) = some (none, (I, up3 [(2, 5, 9), (2, 4, 8), (2, 3, 7), (2, 2, 6), (2, 1, 5), (2, 0, 4)] R, 9, zz)) := (show Call PG (d + 1) 1 [(2, 2)] (I, R, 3, zz) = Run PG (Call PG (d + 0)) 1 0 [(2, 2)] [] (I, R, 3, zz) (0, 0) from rfl).trans ((CT_1_0 ..).trans ((CT_1_12 ..).trans ((CT_1_20 ..).trans ((CT_1_28 ..).trans ((CT_1_36 ..).trans ((CT_1_44 ..).trans (CT_1_52 ..)))))))
set_option maxRecDepth 20000 in
theorem CT_3_0 (C : Cal) : Run PG C 3 0 [(2, 12)] [] (I, R, 13, zz) (0, 0) = Run PG C 3 13 [(2, 12)] [] (I, up3 [(12, 4, 14)] R, 14, zz) (1, 160) := (rt_eq CD_3 [] 6 0 _ _ _ _).trans (Eq.refl _)
set_option maxRecDepth 20000 in
theorem CT_3_13 (C : Cal) : Run PG C 3 13 [(2, 12)] [] (I, R, 14, zz) (1, 160) = Run PG C 3 21 [(2, 12)] [] (I, up3 [(12, 6, 15)] R, 15, zz) (2, 172) := (rt_eq CD_3 [] 4 13 _ _ _ _).trans (Eq.refl _)
set_option maxRecDepth 20000 in
theorem CT_3_21 (C : Cal) : Run PG C 3 21 [(2, 12)] [] (I, R, 15, zz) (2, 172) = Run PG C 3 29 [(2, 12)] [] (I, up3 [(12, 7, 16)] R, 16, zz) (3, 184) := (rt_eq CD_3 [] 4 21 _ _ _ _).trans (Eq.refl _)
set_option maxRecDepth 20000 in
theorem CT_3_29 (C : Cal) : Run PG C 3 29 [(2, 12)] [] (I, R, 16, zz) (3, 184) = Run PG C 3 37 [(2, 12)] [] (I, up3 [(12, 8, 17)] R, 17, zz) (4, 196) := (rt_eq CD_3 [] 4 29 _ _ _ _).trans (Eq.refl _)
set_option maxRecDepth 20000 in
theorem CT_3_37 (C : Cal) : Run PG C 3 37 [(2, 12)] [] (I, R, 17, zz) (4, 196) = Run PG C 3 45 [(2, 12)] [] (I, up3 [(12, 9, 18)] R, 18, zz) (5, 208) := (rt_eq CD_3 [] 4 37 _ _ _ _).trans (Eq.refl _)
set_option maxRecDepth 20000 in
theorem CT_3_45 (C : Cal) : Run PG C 3 45 [(2, 12)] [] (I, R, 18, zz) (5, 208) = Run PG C 3 53 [(2, 12)] [] (I, up3 [(12, 10, 19)] R, 19, zz) (6, 220) := (rt_eq CD_3 [] 4 45 _ _ _ _).trans (Eq.refl _)
set_option maxRecDepth 20000 in
theorem CT_3_53 (C : Cal) : Run PG C 3 53 [(2, 12)] [] (I, R, 19, zz) (6, 220) = Run PG C 3 61 [(2, 12)] [] (I, up3 [(12, 11, 20)] R, 20, zz) (7, 232) := (rt_eq CD_3 [] 4 53 _ _ _ _).trans (Eq.refl _)
set_option maxRecDepth 20000 in
theorem CT_3_61 (C : Cal) : Run PG C 3 61 [(2, 12)] [] (I, R, 20, zz) (7, 232) = Run PG C 3 69 [(2, 12)] [] (I, up3 [(12, 12, 21)] R, 21, zz) (8, 244) := (rt_eq CD_3 [] 4 61 _ _ _ _).trans (Eq.refl _)
set_option maxRecDepth 20000 in
theorem CT_3_69 (C : Cal) : Run PG C 3 69 [(2, 12)] [] (I, R, 21, zz) (8, 244) = Run PG C 3 78 [(2, 12)] [] (I, up3 [(12, 14, 22)] R, 22, zz) (9, 404) := (rt_eq CD_3 [] 4 69 _ _ _ _).trans (Eq.refl _)
set_option maxRecDepth 20000 in
theorem CT_3_78 (C : Cal) : Run PG C 3 78 [(2, 12)] [] (I, R, 22, zz) (9, 404) = some (none, (I, up3 [] R, 22, zz)) := (rt_eq CD_3 [] 1 78 _ _ _ _).trans (Eq.refl _)
theorem N_3 (d : Nat) (I R : Nat → Nat → Int) (zz : Nat × (Nat → Int)) : Call PG (d + 1) 3 [(2, 12)] (I, R, 13, zz) = some (none, (I, up3 [(12, 14, 22), (12, 12, 21), (12, 11, 20), (12, 10, 19), (12, 9, 18), (12, 8, 17), (12, 7, 16), (12, 6, 15), (12, 4, 14)] R, 22, zz)) := (show Call PG (d + 1) 3 [(2, 12)] (I, R, 13, zz) = Run PG (Call PG (d + 0)) 3 0 [(2, 12)] [] (I, R, 13, zz) (0, 0) from rfl).trans ((CT_3_0 ..).trans ((CT_3_13 ..).trans ((CT_3_21 ..).trans ((CT_3_29 ..).trans ((CT_3_37 ..).trans ((CT_3_45 ..).trans ((CT_3_53 ..).trans ((CT_3_61 ..).trans ((CT_3_69 ..).trans (CT_3_78 ..))))))))))
set_option maxRecDepth 20000 in
theorem CT_4_0 (C : Cal) : Run PG C 4 0 [(2, 22)] [] (I, R, 23, zz) (0, 0) = some (none, (I, up3 [] R, 23, zz)) := (rt_eq CD_4 [] 3 0 _ _ _ _).trans (Eq.refl _)
theorem N_4 (d : Nat) (I R : Nat → Nat → Int) (zz : Nat × (Nat → Int)) : Call PG (d + 1) 4 [(2, 22)] (I, R, 23, zz) = some (none, (I, up3 [] R, 23, zz)) := (show Call PG (d + 1) 4 [(2, 22)] (I, R, 23, zz) = Run PG (Call PG (d + 0)) 4 0 [(2, 22)] [] (I, R, 23, zz) (0, 0) from rfl).trans (CT_4_0 ..)
set_option maxRecDepth 20000 in
theorem CT_2_0 (C : Cal) : Run PG C 2 0 [(2, 9)] [] (I, R, 10, zz) (0, 0) = Run PG C 2 12 [(2, 9)] [] (I, up3 [(9, 0, 11)] R, 11, zz) (1, 12) := (rt_eq CD_2 [] 6 0 _ _ _ _).trans (Eq.refl _)
set_option maxRecDepth 20000 in
theorem CT_2_12 (C : Cal) : Run PG C 2 12 [(2, 9)] [] (I, R, 11, zz) (1, 12) = Run PG C 2 21 [(2, 9)] [] (I, up3 [(9, 2, 12)] R, 12, zz) (2, 42) := (rt_eq CD_2 [] 4 12 _ _ _ _).trans (Eq.refl _)
set_option maxRecDepth 20000 in
theorem CT_2_21 (C : Cal) : Run PG C 2 21 [(2, 9)] [] (I, R, 12, zz) (2, 42) = bd (C 3 [(2, 12)] (I, up3 [] R, 13, zz)) (fun v h => Run PG C 2 29 [(2, 9)] (v.toList ++ [(2, 12), (2, 9)]) h (12, 463)) := (rt_eq CD_2 [] 4 21 _ _ _ _).trans (Eq.refl _)
set_option maxRecDepth 20000 in
theorem CT_2_29 (C : Cal) : Run PG C 2 29 [(2, 9)] [(2, 12), (2, 9)] (I, R, 22, zz) (12, 463) = Run PG C 2 32 [(2, 9)] [] (I, up3 [(9, 3, 13)] R, 22, zz) (12, 463) := (rt_eq CD_2 [] 1 29 _ _ _ _).trans (Eq.refl _)
set_option maxRecDepth 20000 in
theorem CT_2_32 (C : Cal) : Run PG C 2 32 [(2, 9)] [] (I, R, 22, zz) (12, 463) = bd (C 4 [(2, 22)] (I, up3 [] R, 23, zz)) (fun v h => Run PG C 2 40 [(2, 9)] (v.toList ++ [(2, 22), (2, 9)]) h (13, 467)) := (rt_eq CD_2 [] 4 32 _ _ _ _).trans (Eq.refl _)
set_option maxRecDepth 20000 in
theorem CT_2_40 (C : Cal) : Run PG C 2 40 [(2, 9)] [(2, 22), (2, 9)] (I, R, 23, zz) (13, 467) = Run PG C 2 43 [(2, 9)] [] (I, up3 [(9, 4, 23)] R, 23, zz) (13, 467) := (rt_eq CD_2 [] 1 40 _ _ _ _).trans (Eq.refl _)
set_option maxRecDepth 20000 in
theorem CT_2_43 (C : Cal) : Run PG C 2 43 [(2, 9)] [] (I, R, 23, zz) (13, 467) = Run PG C 2 51 [(2, 9)] [] (I, up3 [(9, 6, 24)] R, 24, zz) (14, 499) := (rt_eq CD_2 [] 4 43 _ _ _ _).trans (Eq.refl _)
set_option maxRecDepth 20000 in
theorem CT_2_51 (C : Cal) : Run PG C 2 51 [(2, 9)] [] (I, R, 24, zz) (14, 499) = Run PG C 2 60 [(2, 9)] [] (I, up3 [(9, 7, 25)] R, 25, zz) (15, 859) := (rt_eq CD_2 [] 4 51 _ _ _ _).trans (Eq.refl _)
set_option maxRecDepth 20000 in
theorem CT_2_60 (C : Cal) : Run PG C 2 60 [(2, 9)] [] (I, R, 25, zz) (15, 859) = some (none, (I, up3 [] R, 25, zz)) := (rt_eq CD_2 [] 1 60 _ _ _ _).trans (Eq.refl _)
theorem N_2 (d : Nat) (I R : Nat → Nat → Int) (zz : Nat × (Nat → Int)) : Call PG (d + 2) 2 [(2, 9)] (I, R, 10, zz) = some (none, (I, up3 [(9, 7, 25), (9, 6, 24), (9, 4, 23), (9, 3, 13), (12, 14, 22), (12, 12, 21), (12, 11, 20), (12, 10, 19), (12, 9, 18), (12, 8, 17), (12, 7, 16), (12, 6, 15), (12, 4, 14), (9, 2, 12), (9, 0, 11)] R, 25, zz)) := (show Call PG (d + 2) 2 [(2, 9)] (I, R, 10, zz) = Run PG (Call PG (d + 1)) 2 0 [(2, 9)] [] (I, R, 10, zz) (0, 0) from rfl).trans ((CT_2_0 ..).trans ((CT_2_12 ..).trans ((CT_2_21 ..).trans (bd_t (N_3 ..) ((CT_2_29 ..).trans ((CT_2_32 ..).trans (bd_t (N_4 ..) ((CT_2_40 ..).trans ((CT_2_43 ..).trans ((CT_2_51 ..).trans (CT_2_60 ..)))))))))))
set_option maxRecDepth 20000 in
theorem CT_5_0 (C : Cal) : Run PG C 5 0 [(2, 25)] [] (I, R, 26, zz) (0, 0) = Run PG C 5 13 [(2, 25)] [] (I, up3 [(25, 2, 27)] R, 27, zz) (1, 150) := (rt_eq CD_5 [] 6 0 _ _ _ _).trans (Eq.refl _)
set_option maxRecDepth 20000 in
theorem CT_5_13 (C : Cal) : Run PG C 5 13 [(2, 25)] [] (I, R, 27, zz) (1, 150) = Run PG C 5 22 [(2, 25)] [] (I, up3 [(25, 3, 28)] R, 28, zz) (2, 450) := (rt_eq CD_5 [] 4 13 _ _ _ _).trans (Eq.refl _)
set_option maxRecDepth 20000 in
theorem CT_5_22 (C : Cal) : Run PG C 5 22 [(2, 25)] [] (I, R, 28, zz) (2, 450) = Run PG C 5 31 [(2, 25)] [] (I, up3 [(25, 4, 29)] R, 29, zz) (3, 750) := (rt_eq CD_5 [] 4 22 _ _ _ _).trans (Eq.refl _)
set_option maxRecDepth 20000 in
theorem CT_5_31 (C : Cal) : Run PG C 5 31 [(2, 25)] [] (I, R, 29, zz) (3, 750) = Run PG C 5 39 [(2, 25)] [] (I, up3 [(25, 5, 30)] R, 30, zz) (4, 831) := (rt_eq CD_5 [] 4 31 _ _ _ _).trans (Eq.refl _)
set_option maxRecDepth 20000 in
theorem CT_5_39 (C : Cal) : Run PG C 5 39 [(2, 25)] [] (I, R, 30, zz) (4, 831) = Run PG C 5 47 [(2, 25)] [] (I, up3 [(25, 6, 31)] R, 31, zz) (5, 911) := (rt_eq CD_5 [] 4 39 _ _ _ _).trans (Eq.refl _)
set_option maxRecDepth 20000 in
theorem CT_5_47 (C : Cal) : Run PG C 5 47 [(2, 25)] [] (I, R, 31, zz) (5, 911) = Run PG C 5 55 [(2, 25)] [] (I, up3 [(25, 7, 32)] R, 32, zz) (6, 991) := (rt_eq CD_5 [] 4 47 _ _ _ _).trans (Eq.refl _)
set_option maxRecDepth 20000 in
theorem CT_5_55 (C : Cal) : Run PG C 5 55 [(2, 25)] [] (I, R, 32, zz) (6, 991) = Run PG C 5 64 [(2, 25)] [] (I, up3 [(25, 9, 33)] R, 33, zz) (7, 1141) := (rt_eq CD_5 [] 4 55 _ _ _ _).trans (Eq.refl _)
set_option maxRecDepth 20000 in
theorem CT_5_64 (C : Cal) : Run PG C 5 64 [(2, 25)] [] (I, R, 33, zz) (7, 1141) = Run PG C 5 72 [(2, 25)] [] (I, up3 [(25, 10, 34)] R, 34, zz) (8, 1221) := (rt_eq CD_5 [] 4 64 _ _ _ _).trans (Eq.refl _)
set_option maxRecDepth 20000 in
theorem CT_5_72 (C : Cal) : Run PG C 5 72 [(2, 25)] [] (I, R, 34, zz) (8, 1221) = Run PG C 5 80 [(2, 25)] [] (I, up3 [(25, 11, 35)] R, 35, zz) (9, 1233) := (rt_eq CD_5 [] 4 72 _ _ _ _).trans (Eq.refl _)
set_option maxRecDepth 20000 in
theorem CT_5_80 (C : Cal) : Run PG C 5 80 [(2, 25)] [] (I, R, 35, zz) (9, 1233) = Run PG C 5 89 [(2, 25)] [] (I, up3 [(25, 12, 36)] R, 36, zz) (10, 1383) := (rt_eq CD_5 [] 4 80 _ _ _ _).trans (Eq.refl _)
set_option maxRecDepth 20000 in
theorem CT_5_89 (C : Cal) : Run PG C 5 89 [(2, 25)] [] (I, R, 36, zz) (10, 1383) = Run PG C 5 97 [(2, 25)] [] (I, up3 [(25, 13, 37)] R, 37, zz) (11, 1463) := (rt_eq CD_5 [] 4 89 _ _ _ _).trans (Eq.refl _)
set_option maxRecDepth 20000 in
theorem CT_5_97 (C : Cal) : Run PG C 5 97 [(2, 25)] [] (I, R, 37, zz) (11, 1463) = Run PG C 5 105 [(2, 25)] [] (I, up3 [(25, 14, 38)] R, 38, zz) (12, 1475) := (rt_eq CD_5 [] 4 97 _ _ _ _).trans (Eq.refl _)
set_option maxRecDepth 20000 in
theorem CT_5_105 (C : Cal) : Run PG C 5 105 [(2, 25)] [] (I, up3 [(25, 14, 38), (25, 13, 37), (25, 12, 36), (25, 11, 35), (25, 10, 34), (25, 9, 33), (25, 7, 32), (25, 6, 31), (25, 5, 30), (25, 4, 29), (25, 3, 28), (25, 2, 27)] R, 38, zz) (12, 1475) = bd (C 344 [(2, 34), (0, -1)] (I, up3 [(25, 14, 38), (25, 13, 37), (25, 12, 36), (25, 11, 35), (25, 10, 34), (25, 9, 33), (25, 7, 32), (25, 6, 31), (25, 5, 30), (25, 4, 29), (25, 3, 28), (25, 2, 27)] R, 38, zz)) (fun v h => Run PG C 5 113 [(2, 25)] (v.toList ++ []) h (12, 1475)) := (rt_eq CD_5 [] 4 105 _ _ _ _).trans (Eq.refl _)
set_option maxRecDepth 20000 in
theorem CT_5_113 (C : Cal) : Run PG C 5 113 [(2, 25)] [] (I, up3 [(25, 14, 38), (25, 13, 37), (25, 12, 36), (25, 11, 35), (25, 10, 34), (25, 9, 33), (25, 7, 32), (25, 6, 31), (25, 5, 30), (25, 4, 29), (25, 3, 28), (25, 2, 27)] R, 38, zz) (12, 1475) = bd (C 344 [(2, 37), (0, -2)] (I, up3 [(25, 14, 38), (25, 13, 37), (25, 12, 36), (25, 11, 35), (25, 10, 34), (25, 9, 33), (25, 7, 32), (25, 6, 31), (25, 5, 30), (25, 4, 29), (25, 3, 28), (25, 2, 27)] R, 38, zz)) (fun v h => Run PG C 5 122 [(2, 25)] (v.toList ++ []) h (12, 1475)) := (rt_eq CD_5 [] 4 113 _ _ _ _).trans (Eq.refl _)
set_option maxRecDepth 20000 in
theorem CT_5_122 (C : Cal) : Run PG C 5 122 [(2, 25)] [] (I, R, 38, zz) (12, 1475) = some (none, (I, up3 [] R, 38, zz)) := (rt_eq CD_5 [] 1 122 _ _ _ _).trans (Eq.refl _)
theorem N_5 (d : Nat) (I R : Nat → Nat → Int) (zz : Nat × (Nat → Int)) : Call PG (d + 2) 5 [(2, 25)] (I, R, 26, zz) = some (none, ((pc (pc I 34 (fl (I 34) 12 (-1))) 37 (fl ((pc I 34 (fl (I 34) 12 (-1))) 37) 12 (-2))), up3 [(25, 14, 38), (25, 13, 37), (25, 12, 36), (25, 11, 35), (25, 10, 34), (25, 9, 33), (25, 7, 32), (25, 6, 31), (25, 5, 30), (25, 4, 29), (25, 3, 28), (25, 2, 27)] R, 38, zz)) := (show Call PG (d + 2) 5 [(2, 25)] (I, R, 26, zz) = Run PG (Call PG (d + 1)) 5 0 [(2, 25)] [] (I, R, 26, zz) (0, 0) from rfl).trans ((CT_5_0 ..).trans ((CT_5_13 ..).trans ((CT_5_22 ..).trans ((CT_5_31 ..).trans ((CT_5_39 ..).trans ((CT_5_47 ..).trans ((CT_5_55 ..).trans ((CT_5_64 ..).trans ((CT_5_72 ..).trans ((CT_5_80 ..).trans ((CT_5_89 ..).trans ((CT_5_97 ..).trans ((CT_5_105 ..).trans (bd_t (G_344 (c := 34) (n := 12) rfl (by decide)) ((CT_5_113 ..).trans (bd_t (G_344 (c := 37) (n := 12) rfl (by decide)) (CT_5_122 ..)))))))))))))))))
set_option maxRecDepth 20000 in
theorem CT_6_0 (C : Cal) : Run PG C 6 0 [(2, 38)] [] (I, R, 39, zz) (0, 0) = Run PG C 6 12 [(2, 38)] [] (I, up3 [(38, 0, 40)] R, 40, zz) (1, 12) := (rt_eq CD_6 [] 6 0 _ _ _ _).trans (Eq.refl _)
set_option maxRecDepth 20000 in
theorem CT_6_12 (C : Cal) : Run PG C 6 12 [(2, 38)] [] (I, R, 40, zz) (1, 12) = Run PG C 6 20 [(2, 38)] [] (I, up3 [(38, 1, 41)] R, 41, zz) (2, 24) := (rt_eq CD_6 [] 4 12 _ _ _ _).trans (Eq.refl _)
set_option maxRecDepth 20000 in
theorem CT_6_20 (C : Cal) : Run PG C 6 20 [(2, 38)] [] (I, R, 41, zz) (2, 24) = Run PG C 6 28 [(2, 38)] [] (I, up3 [(38, 2, 42)] R, 42, zz) (3, 36) := (rt_eq CD_6 [] 4 20 _ _ _ _).trans (Eq.refl _)
set_option maxRecDepth 20000 in
theorem CT_6_28 (C : Cal) : Run PG C 6 28 [(2, 38)] [] (I, R, 42, zz) (3, 36) = Run PG C 6 37 [(2, 38)] [] (I, up3 [(38, 3, 43)] R, 43, zz) (4, 186) := (rt_eq CD_6 [] 4 28 _ _ _ _).trans (Eq.refl _)
set_option maxRecDepth 20000 in
theorem CT_6_37 (C : Cal) : Run PG C 6 37 [(2, 38)] [] (I, R, 43, zz) (4, 186) = Run PG C 6 45 [(2, 38)] [] (I, up3 [(38, 4, 44)] R, 44, zz) (5, 266) := (rt_eq CD_6 [] 4 37 _ _ _ _).trans (Eq.refl _)
set_option maxRecDepth 20000 in
theorem CT_6_45 (C : Cal) : Run PG C 6 45 [(2, 38)] [] (I, R, 44, zz) (5, 266) = Run PG C 6 53 [(2, 38)] [] (I, up3 [(38, 5, 45)] R, 45, zz) (6, 278) := (rt_eq CD_6 [] 4 45 _ _ _ _).trans (Eq.refl _)
set_option maxRecDepth 20000 in
theorem CT_6_53 (C : Cal) : Run PG C 6 53 [(2, 38)] [] (I, up3 [(38, 5, 45), (38, 4, 44), (38, 3, 43), (38, 2, 42), (38, 1, 41), (38, 0, 40)] R, 45, zz) (6, 278) = bd (C 344 [(2, 39), (0, -1)] (I, up3 [(38, 5, 45), (38, 4, 44), (38, 3, 43), (38, 2, 42), (38, 1, 41), (38, 0, 40)] R, 45, zz)) (fun v h => Run PG C 6 61 [(2, 38)] (v.toList ++ []) h (6, 278)) := (rt_eq CD_6 [] 4 53 _ _ _ _).trans (Eq.refl _)
set_option maxRecDepth 20000 in
theorem CT_6_61 (C : Cal) : Run PG C 6 61 [(2, 38)] [] (I, up3 [(38, 5, 45), (38, 4, 44), (38, 3, 43), (38, 2, 42), (38, 1, 41), (38, 0, 40)] R, 45, zz) (6, 278) = bd (C 344 [(2, 44), (0, -2)] (I, up3 [(38, 5, 45), (38, 4, 44), (38, 3, 43), (38, 2, 42), (38, 1, 41), (38, 0, 40)] R, 45, zz)) (fun v h => Run PG C 6 70 [(2, 38)] (v.toList ++ []) h (6, 278)) := (rt_eq CD_6 [] 4 61 _ _ _ _).trans (Eq.refl _)
set_option maxRecDepth 20000 in
theorem CT_6_70 (C : Cal) : Run PG C 6 70 [(2, 38)] [] (I, R, 45, zz) (6, 278) = some (none, (I, up3 [] R, 45, zz)) := (rt_eq CD_6 [] 1 70 _ _ _ _).trans (Eq.refl _)
theorem N_6 (d : Nat) (I R : Nat → Nat → Int) (zz : Nat × (Nat → Int)) : Call PG (d + 2) 6 [(2, 38)] (I, R, 39, zz) = some (none, ((pc (pc I 39 (fl (I 39) 12 (-1))) 44 (fl ((pc I 39 (fl (I 39) 12 (-1))) 44) 12 (-2))), up3 [(38, 5, 45), (38, 4, 44), (38, 3, 43), (38, 2, 42), (38, 1, 41), (38, 0, 40)] R, 45, zz)) := (show Call PG (d + 2) 6 [(2, 38)] (I, R, 39, zz) = Run PG (Call PG (d + 1)) 6 0 [(2, 38)] [] (I, R, 39, zz) (0, 0) from rfl).trans ((CT_6_0 ..).trans ((CT_6_12 ..).trans ((CT_6_20 ..).trans ((CT_6_28 ..).trans ((CT_6_37 ..).trans ((CT_6_45 ..).trans ((CT_6_53 ..).trans (bd_t (G_344 (c := 39) (n := 12) rfl (by decide)) ((CT_6_61 ..).trans (bd_t (G_344 (c := 44) (n := 12) rfl (by decide)) (CT_6_70 ..)))))))))))
set_option maxRecDepth 20000 in
theorem CT_7_0 (C : Cal) : Run PG C 7 0 [(2, 45)] [] (I, R, 46, zz) (0, 0) = Run PG C 7 12 [(2, 45)] [] (I, up3 [(45, 4, 47)] R, 47, zz) (1, 15) := (rt_eq CD_7 [] 6 0 _ _ _ _).trans (Eq.refl _)
set_option maxRecDepth 20000 in
theorem CT_7_12 (C : Cal) : Run PG C 7 12 [(2, 45)] [] (I, R, 47, zz) (1, 15) = Run PG C 7 20 [(2, 45)] [] (I, up3 [(45, 5, 48)] R, 48, zz) (2, 30) := (rt_eq CD_7 [] 4 12 _ _ _ _).trans (Eq.refl _)
set_option maxRecDepth 20000 in
theorem CT_7_20 (C : Cal) : Run PG C 7 20 [(2, 45)] [] (I, R, 48, zz) (2, 30) = Run PG C 7 28 [(2, 45)] [] (I, up3 [(45, 6, 49)] R, 49, zz) (3, 45) := (rt_eq CD_7 [] 4 20 _ _ _ _).trans (Eq.refl _)
set_option maxRecDepth 20000 in
theorem CT_7_28 (C : Cal) : Run PG C 7 28 [(2, 45)] [] (I, R, 49, zz) (3, 45) = Run PG C 7 36 [(2, 45)] [] (I, up3 [(45, 7, 50)] R, 50, zz) (4, 60) := (rt_eq CD_7 [] 4 28 _ _ _ _).trans (Eq.refl _)
set_option maxRecDepth 20000 in
theorem CT_7_36 (C : Cal) : Run PG C 7 36 [(2, 45)] [] (I, R, 50, zz) (4, 60) = Run PG C 7 44 [(2, 45)] [] (I, up3 [(45, 8, 51)] R, 51, zz) (5, 180) := (rt_eq CD_7 [] 4 36 _ _ _ _).trans (Eq.refl _)
set_option maxRecDepth 20000 in
theorem CT_7_44 (C : Cal) : Run PG C 7 44 [(2, 45)] [] (I, R, 51, zz) (5, 180) = Run PG C 7 52 [(2, 45)] [] (I, up3 [(45, 9, 52)] R, 52, zz) (6, 300) := (rt_eq CD_7 [] 4 44 _ _ _ _).trans (Eq.refl _)
set_option maxRecDepth 20000 in
theorem CT_7_52 (C : Cal) : Run PG C 7 52 [(2, 45)] [] (I, R, 52, zz) (6, 300) = Run PG C 7 60 [(2, 45)] [] (I, up3 [(45, 10, 53)] R, 53, zz) (7, 420) := (rt_eq CD_7 [] 4 52 _ _ _ _).trans (Eq.refl _)
set_option maxRecDepth 20000 in
theorem CT_7_60 (C : Cal) : Run PG C 7 60 [(2, 45)] [] (I, R, 53, zz) (7, 420) = Run PG C 7 68 [(2, 45)] [] (I, up3 [(45, 11, 54)] R, 54, zz) (8, 450) := (rt_eq CD_7 [] 4 60 _ _ _ _).trans (Eq.refl _)
set_option maxRecDepth 20000 in
theorem CT_7_68 (C : Cal) : Run PG C 7 68 [(2, 45)] [] (I, R, 54, zz) (8, 450) = Run PG C 7 76 [(2, 45)] [] (I, up3 [(45, 12, 55)] R, 55, zz) (9, 480) := (rt_eq CD_7 [] 4 68 _ _ _ _).trans (Eq.refl _)
set_option maxRecDepth 20000 in
theorem CT_7_76 (C : Cal) : Run PG C 7 76 [(2, 45)] [] (I, R, 55, zz) (9, 480) = some (none, (I, up3 [] R, 55, zz)) := (rt_eq CD_7 [] 1 76 _ _ _ _).trans (Eq.refl _)
theorem N_7 (d : Nat) (I R : Nat → Nat → Int) (zz : Nat × (Nat → Int)) : Call PG (d + 1) 7 [(2, 45)] (I, R, 46, zz) = some (none, (I, up3 [(45, 12, 55), (45, 11, 54), (45, 10, 53), (45, 9, 52), (45, 8, 51), (45, 7, 50), (45, 6, 49), (45, 5, 48), (45, 4, 47)] R, 55, zz)) := (show Call PG (d + 1) 7 [(2, 45)] (I, R, 46, zz) = Run PG (Call PG (d + 0)) 7 0 [(2, 45)] [] (I, R, 46, zz) (0, 0) from rfl).trans ((CT_7_0 ..).trans ((CT_7_12 ..).trans ((CT_7_20 ..).trans ((CT_7_28 ..).trans ((CT_7_36 ..).trans ((CT_7_44 ..).trans ((CT_7_52 ..).trans ((CT_7_60 ..).trans ((CT_7_68 ..).trans (CT_7_76 ..))))))))))
set_option maxRecDepth 20000 in
theorem CT_8_0 (C : Cal) : Run PG C 8 0 [(2, 55)] [] (I, R, 56, zz) (0, 0) = Run PG C 8 12 [(2, 55)] [] (I, up3 [(55, 1, 57)] R, 57, zz) (1, 40) := (rt_eq CD_8 [] 6 0 _ _ _ _).trans (Eq.refl _)
set_option maxRecDepth 20000 in
theorem CT_8_12 (C : Cal) : Run PG C 8 12 [(2, 55)] [] (I, R, 57, zz) (1, 40) = Run PG C 8 20 [(2, 55)] [] (I, up3 [(55, 2, 58)] R, 58, zz) (2, 80) := (rt_eq CD_8 [] 4 12 _ _ _ _).trans (Eq.refl _)
set_option maxRecDepth 20000 in
theorem CT_8_20 (C : Cal) : Run PG C 8 20 [(2, 55)] [] (I, R, 58, zz) (2, 80) = Run PG C 8 28 [(2, 55)] [] (I, up3 [(55, 3, 59)] R, 59, zz) (3, 120) := (rt_eq CD_8 [] 4 20 _ _ _ _).trans (Eq.refl _)
set_option maxRecDepth 20000 in
theorem CT_8_28 (C : Cal) : Run PG C 8 28 [(2, 55)] [] (I, R, 59, zz) (3, 120) = Run PG C 8 36 [(2, 55)] [] (I, up3 [(55, 5, 60)] R, 60, zz) (4, 180) := (rt_eq CD_8 [] 4 28 _ _ _ _).trans (Eq.refl _)
set_option maxRecDepth 20000 in
theorem CT_8_36 (C : Cal) : Run PG C 8 36 [(2, 55)] [] (I, R, 60, zz) (4, 180) = Run PG C 8 44 [(2, 55)] [] (I, up3 [(55, 6, 61)] R, 61, zz) (5, 240) := (rt_eq CD_8 [] 4 36 _ _ _ _).trans (Eq.refl _)
set_option maxRecDepth 20000 in
theorem CT_8_44 (C : Cal) : Run PG C 8 44 [(2, 55)] [] (I, R, 61, zz) (5, 240) = Run PG C 8 53 [(2, 55)] [] (I, up3 [(55, 8, 62)] R, 62, zz) (6, 540) := (rt_eq CD_8 [] 4 44 _ _ _ _).trans (Eq.refl _)
set_option maxRecDepth 20000 in
theorem CT_8_53 (C : Cal) : Run PG C 8 53 [(2, 55)] [] (I, R, 62, zz) (6, 540) = Run PG C 8 62 [(2, 55)] [] (I, up3 [(55, 9, 63)] R, 63, zz) (7, 840) := (rt_eq CD_8 [] 4 53 _ _ _ _).trans (Eq.refl _)
set_option maxRecDepth 20000 in
theorem CT_8_62 (C : Cal) : Run PG C 8 62 [(2, 55)] [] (I, R, 63, zz) (7, 840) = Run PG C 8 71 [(2, 55)] [] (I, up3 [(55, 10, 64)] R, 64, zz) (8, 1140) := (rt_eq CD_8 [] 4 62 _ _ _ _).trans (Eq.refl _)
set_option maxRecDepth 20000 in
theorem CT_8_71 (C : Cal) : Run PG C 8 71 [(2, 55)] [] (I, R, 64, zz) (8, 1140) = Run PG C 8 79 [(2, 55)] [] (I, up3 [(55, 11, 65)] R, 65, zz) (9, 1152) := (rt_eq CD_8 [] 4 71 _ _ _ _).trans (Eq.refl _)
set_option maxRecDepth 20000 in
theorem CT_8_79 (C : Cal) : Run PG C 8 79 [(2, 55)] [] (I, R, 65, zz) (9, 1152) = Run PG C 8 87 [(2, 55)] [] (I, up3 [(55, 12, 66)] R, 66, zz) (10, 1164) := (rt_eq CD_8 [] 4 79 _ _ _ _).trans (Eq.refl _)
set_option maxRecDepth 20000 in
theorem CT_8_87 (C : Cal) : Run PG C 8 87 [(2, 55)] [] (I, R, 66, zz) (10, 1164) = Run PG C 8 96 [(2, 55)] [] (I, up3 [(55, 14, 67)] R, 67, zz) (11, 1464) := (rt_eq CD_8 [] 4 87 _ _ _ _).trans (Eq.refl _)
set_option maxRecDepth 20000 in
theorem CT_8_96 (C : Cal) : Run PG C 8 96 [(2, 55)] [] (I, R, 67, zz) (11, 1464) = Run PG C 8 105 [(2, 55)] [] (I, up3 [(55, 15, 68)] R, 68, zz) (12, 1764) := (rt_eq CD_8 [] 4 96 _ _ _ _).trans (Eq.refl _)
set_option maxRecDepth 20000 in
theorem CT_8_105 (C : Cal) : Run PG C 8 105 [(2, 55)] [] (I, R, 68, zz) (12, 1764) = some (none, (I, up3 [] R, 68, zz)) := (rt_eq CD_8 [] 1 105 _ _ _ _).trans (Eq.refl _)
theorem N_8 (d : Nat) (I R : Nat → Nat → Int) (zz : Nat × (Nat → Int)) : Call PG (d + 1) 8 [(2, 55)] (I, R, 56, zz) = some (none, (I, up3 [(55, 15, 68), (55, 14, 67), (55, 12, 66), (55, 11, 65), (55, 10, 64), (55, 9, 63), (55, 8, 62), (55, 6, 61), (55, 5, 60), (55, 3, 59), (55, 2, 58), (55, 1, 57)] R, 68, zz)) := (show Call PG (d + 1) 8 [(2, 55)] (I, R, 56, zz) = Run PG (Call PG (d + 0)) 8 0 [(2, 55)] [] (I, R, 56, zz) (0, 0) from rfl).trans ((CT_8_0 ..).trans ((CT_8_12 ..).trans ((CT_8_20 ..).trans ((CT_8_28 ..).trans ((CT_8_36 ..).trans ((CT_8_44 ..).trans ((CT_8_53 ..).trans ((CT_8_62 ..).trans ((CT_8_71 ..).trans ((CT_8_79 ..).trans ((CT_8_87 ..).trans ((CT_8_96 ..).trans (CT_8_105 ..)))))))))))))
set_option maxRecDepth 20000 in
theorem CT_9_0 (C : Cal) : Run PG C 9 0 [(2, 68)] [] (I, R, 69, zz) (0, 0) = Run PG C 9 12 [(2, 68)] [] (I, up3 [(68, 1, 70)] R, 70, zz) (1, 60) := (rt_eq CD_9 [] 6 0 _ _ _ _).trans (Eq.refl _)
set_option maxRecDepth 20000 in
theorem CT_9_12 (C : Cal) : Run PG C 9 12 [(2, 68)] [] (I, R, 70, zz) (1, 60) = Run PG C 9 21 [(2, 68)] [] (I, up3 [(68, 2, 71)] R, 71, zz) (2, 2460) := (rt_eq CD_9 [] 4 12 _ _ _ _).trans (Eq.refl _)
set_option maxRecDepth 20000 in
theorem CT_9_21 (C : Cal) : Run PG C 9 21 [(2, 68)] [] (I, R, 71, zz) (2, 2460) = Run PG C 9 29 [(2, 68)] [] (I, up3 [(68, 3, 72)] R, 72, zz) (3, 2520) := (rt_eq CD_9 [] 4 21 _ _ _ _).trans (Eq.refl _)
set_option maxRecDepth 20000 in
theorem CT_9_29 (C : Cal) : Run PG C 9 29 [(2, 68)] [] (I, up3 [(68, 3, 72), (68, 2, 71), (68, 1, 70)] R, 72, zz) (3, 2520) = bd (C 344 [(2, 70), (0, -1)] (I, up3 [(68, 3, 72), (68, 2, 71), (68, 1, 70)] R, 72, zz)) (fun v h => Run PG C 9 37 [(2, 68)] (v.toList ++ []) h (3, 2520)) := (rt_eq CD_9 [] 4 29 _ _ _ _).trans (Eq.refl _)
set_option maxRecDepth 20000 in
theorem CT_9_37 (C : Cal) : Run PG C 9 37 [(2, 68)] [] (I, R, 72, zz) (3, 2520) = some (none, (I, up3 [] R, 72, zz)) := (rt_eq CD_9 [] 1 37 _ _ _ _).trans (Eq.refl _)
theorem N_9 (d : Nat) (I R : Nat → Nat → Int) (zz : Nat × (Nat → Int)) : Call PG (d + 2) 9 [(2, 68)] (I, R, 69, zz) = some (none, ((pc I 70 (fl (I 70) 2400 (-1))), up3 [(68, 3, 72), (68, 2, 71), (68, 1, 70)] R, 72, zz)) := (show Call PG (d + 2) 9 [(2, 68)] (I, R, 69, zz) = Run PG (Call PG (d + 1)) 9 0 [(2, 68)] [] (I, R, 69, zz) (0, 0) from rfl).trans ((CT_9_0 ..).trans ((CT_9_12 ..).trans ((CT_9_21 ..).trans ((CT_9_29 ..).trans (bd_t (G_344 (c := 70) (n := 2400) rfl (by decide)) (CT_9_37 ..))))))
set_option maxRecDepth 20000 in
theorem CT_10_0 (C : Cal) : Run PG C 10 0 [(2, 72)] [] (I, R, 73, zz) (0, 0) = Run PG C 10 12 [(2, 72)] [] (I, up3 [(72, 1, 74)] R, 74, zz) (1, 12) := (rt_eq CD_10 [] 6 0 _ _ _ _).trans (Eq.refl _)
set_option maxRecDepth 20000 in
theorem CT_10_12 (C : Cal) : Run PG C 10 12 [(2, 72)] [] (I, R, 74, zz) (1, 12) = Run PG C 10 17 [(2, 72)] [] ((up2 I 72 2 (1)), up3 [] R, 74, zz) (1, 12) := (rt_eq CD_10 [] 3 12 _ _ _ _).trans (Eq.refl _)
set_option maxRecDepth 20000 in
theorem CT_10_17 (C : Cal) : Run PG C 10 17 [(2, 72)] [] (I, R, 74, zz) (1, 12) = Run PG C 10 25 [(2, 72)] [] (I, up3 [(72, 3, 75)] R, 75, zz) (2, 24) := (rt_eq CD_10 [] 4 17 _ _ _ _).trans (Eq.refl _)
set_option maxRecDepth 20000 in
theorem CT_10_25 (C : Cal) : Run PG C 10 25 [(2, 72)] [] (I, R, 75, zz) (2, 24) = Run PG C 10 33 [(2, 72)] [] (I, up3 [(72, 4, 76)] R, 76, zz) (3, 36) := (rt_eq CD_10 [] 4 25 _ _ _ _).trans (Eq.refl _)
set_option maxRecDepth 20000 in
theorem CT_10_33 (C : Cal) : Run PG C 10 33 [(2, 72)] [] (I, R, 76, zz) (3, 36) = Run PG C 10 41 [(2, 72)] [] (I, up3 [(72, 5, 77)] R, 77, zz) (4, 48) := (rt_eq CD_10 [] 4 33 _ _ _ _).trans (Eq.refl _)
set_option maxRecDepth 20000 in
theorem CT_10_41 (C : Cal) : Run PG C 10 41 [(2, 72)] [] (I, up3 [(72, 5, 77), (72, 4, 76), (72, 3, 75), (72, 1, 74)] R, 77, zz) (4, 48) = bd (C 344 [(2, 76), (0, -1)] (I, up3 [(72, 5, 77), (72, 4, 76), (72, 3, 75), (72, 1, 74)] R, 77, zz)) (fun v h => Run PG C 10 49 [(2, 72)] (v.toList ++ []) h (4, 48)) := (rt_eq CD_10 [] 4 41 _ _ _ _).trans (Eq.refl _)
set_option maxRecDepth 20000 in
theorem CT_10_49 (C : Cal) : Run PG C 10 49 [(2, 72)] [] (I, R, 77, zz) (4, 48) = some (none, (I, up3 [] R, 77, zz)) := (rt_eq CD_10 [] 1 49 _ _ _ _).trans (Eq.refl _)
theorem N_10 (d : Nat) (I R : Nat → Nat → Int) (zz : Nat × (Nat → Int)) : Call PG (d + 2) 10 [(2, 72)] (I, R, 73, zz) = some (none, ((pc (up2 I 72 2 (1)) 76 (fl ((up2 I 72 2 (1)) 76) 12 (-1))), up3 [(72, 5, 77), (72, 4, 76), (72, 3, 75), (72, 1, 74)] R, 77, zz)) := (show Call PG (d + 2) 10 [(2, 72)] (I, R, 73, zz) = Run PG (Call PG (d + 1)) 10 0 [(2, 72)] [] (I, R, 73, zz) (0, 0) from rfl).trans ((CT_10_0 ..).trans ((CT_10_12 ..).trans ((CT_10_17 ..).trans ((CT_10_25 ..).trans ((CT_10_33 ..).trans ((CT_10_41 ..).trans (bd_t (G_344 (c := 76) (n := 12) rfl (by decide)) (CT_10_49 ..))))))))
set_option maxRecDepth 20000 in
theorem CT_11_0 (C : Cal) : Run PG C 11 0 [(2, 77)] [] (I, R, 78, zz) (0, 0) = Run PG C 11 12 [(2, 77)] [] (I, up3 [(77, 1, 79)] R, 79, zz) (1, 16) := (rt_eq CD_11 [] 6 0 _ _ _ _).trans (Eq.refl _)
set_option maxRecDepth 20000 in
theorem CT_11_12 (C : Cal) : Run PG C 11 12 [(2, 77)] [] (I, R, 79, zz) (1, 16) = Run PG C 11 20 [(2, 77)] [] (I, up3 [(77, 2, 80)] R, 80, zz) (2, 32) := (rt_eq CD_11 [] 4 12 _ _ _ _).trans (Eq.refl _)
set_option maxRecDepth 20000 in
theorem CT_11_20 (C : Cal) : Run PG C 11 20 [(2, 77)] [] (I, R, 80, zz) (2, 32) = Run PG C 11 28 [(2, 77)] [] (I, up3 [(77, 3, 81)] R, 81, zz) (3, 48) := (rt_eq CD_11 [] 4 20 _ _ _ _).trans (Eq.refl _)
set_option maxRecDepth 20000 in
theorem CT_11_28 (C : Cal) : Run PG C 11 28 [(2, 77)] [] (I, R, 81, zz) (3, 48) = Run PG C 11 36 [(2, 77)] [] (I, up3 [(77, 4, 82)] R, 82, zz) (4, 64) := (rt_eq CD_11 [] 4 28 _ _ _ _).trans (Eq.refl _)
set_option maxRecDepth 20000 in
theorem CT_11_36 (C : Cal) : Run PG C 11 36 [(2, 77)] [] (I, R, 82, zz) (4, 64) = Run PG C 11 41 [(2, 77)] [] ((up2 I 77 5 (5)), up3 [] R, 82, zz) (4, 64) := (rt_eq CD_11 [] 3 36 _ _ _ _).trans (Eq.refl _)
set_option maxRecDepth 20000 in
theorem CT_11_41 (C : Cal) : Run PG C 11 41 [(2, 77)] [] (I, R, 82, zz) (4, 64) = some (none, (I, up3 [] R, 82, zz)) := (rt_eq CD_11 [] 1 41 _ _ _ _).trans (Eq.refl _)
theorem N_11 (d : Nat) (I R : Nat → Nat → Int) (zz : Nat × (Nat → Int)) : Call PG (d + 1) 11 [(2, 77)] (I, R, 78, zz) = some (none, ((up2 I 77 5 (5)), up3 [(77, 4, 82), (77, 3, 81), (77, 2, 80), (77, 1, 79)] R, 82, zz)) := (show Call PG (d + 1) 11 [(2, 77)] (I, R, 78, zz) = Run PG (Call PG (d + 0)) 11 0 [(2, 77)] [] (I, R, 78, zz) (0, 0) from rfl).trans ((CT_11_0 ..).trans ((CT_11_12 ..).trans ((CT_11_20 ..).trans ((CT_11_28 ..).trans ((CT_11_36 ..).trans (CT_11_41 ..))))))
set_option maxRecDepth 20000 in
theorem CT_0_0 (C : Cal) : Run PG C 0 0 [(2, 0)] [] (I, R, 1, zz) (0, 0) = Run PG C 0 13 [(2, 0)] [] (I, up3 [(0, 1, 2)] R, 2, zz) (1, 160) := (rt_eq CD_0 [] 6 0 _ _ _ _).trans (Eq.refl _)
set_option maxRecDepth 20000 in
theorem CT_0_13 (C : Cal) : Run PG C 0 13 [(2, 0)] [] (I, R, 2, zz) (1, 160) = bd (C 1 [(2, 2)] (I, up3 [] R, 3, zz)) (fun v h => Run PG C 0 21 [(2, 0)] (v.toList ++ [(2, 2), (2, 0)]) h (8, 240)) := (rt_eq CD_0 [] 4 13 _ _ _ _).trans (Eq.refl _)
set_option maxRecDepth 20000 in
theorem CT_0_21 (C : Cal) : Run PG C 0 21 [(2, 0)] [(2, 2), (2, 0)] (I, R, 9, zz) (8, 240) = Run PG C 0 24 [(2, 0)] [] (I, up3 [(0, 3, 3)] R, 9, zz) (8, 240) := (rt_eq CD_0 [] 1 21 _ _ _ _).trans (Eq.refl _)
set_option maxRecDepth 20000 in
theorem CT_0_24 (C : Cal) : Run PG C 0 24 [(2, 0)] [] (I, R, 9, zz) (8, 240) = bd (C 2 [(2, 9)] (I, up3 [] R, 10, zz)) (fun v h => Run PG C 0 32 [(2, 0)] (v.toList ++ [(2, 9), (2, 0)]) h (24, 1108)) := (rt_eq CD_0 [] 4 24 _ _ _ _).trans (Eq.refl _)
set_option maxRecDepth 20000 in
theorem CT_0_32 (C : Cal) : Run PG C 0 32 [(2, 0)] [(2, 9), (2, 0)] (I, R, 25, zz) (24, 1108) = Run PG C 0 35 [(2, 0)] [] (I, up3 [(0, 4, 10)] R, 25, zz) (24, 1108) := (rt_eq CD_0 [] 1 32 _ _ _ _).trans (Eq.refl _)
set_option maxRecDepth 20000 in
theorem CT_0_35 (C : Cal) : Run PG C 0 35 [(2, 0)] [] (I, R, 25, zz) (24, 1108) = bd (C 5 [(2, 25)] (I, up3 [] R, 26, zz)) (fun v h => Run PG C 0 43 [(2, 0)] (v.toList ++ [(2, 25), (2, 0)]) h (37, 2598)) := (rt_eq CD_0 [] 4 35 _ _ _ _).trans (Eq.refl _)
set_option maxRecDepth 20000 in
theorem CT_0_43 (C : Cal) : Run PG C 0 43 [(2, 0)] [(2, 25), (2, 0)] (I, R, 38, zz) (37, 2598) = Run PG C 0 46 [(2, 0)] [] (I, up3 [(0, 5, 26)] R, 38, zz) (37, 2598) := (rt_eq CD_0 [] 1 43 _ _ _ _).trans (Eq.refl _)
set_option maxRecDepth 20000 in
theorem CT_0_46 (C : Cal) : Run PG C 0 46 [(2, 0)] [] (I, R, 38, zz) (37, 2598) = bd (C 6 [(2, 38)] (I, up3 [] R, 39, zz)) (fun v h => Run PG C 0 54 [(2, 0)] (v.toList ++ [(2, 38), (2, 0)]) h (44, 2882)) := (rt_eq CD_0 [] 4 46 _ _ _ _).trans (Eq.refl _)
set_option maxRecDepth 20000 in
theorem CT_0_54 (C : Cal) : Run PG C 0 54 [(2, 0)] [(2, 38), (2, 0)] (I, R, 45, zz) (44, 2882) = Run PG C 0 57 [(2, 0)] [] (I, up3 [(0, 6, 39)] R, 45, zz) (44, 2882) := (rt_eq CD_0 [] 1 54 _ _ _ _).trans (Eq.refl _)
set_option maxRecDepth 20000 in
theorem CT_0_57 (C : Cal) : Run PG C 0 57 [(2, 0)] [] (I, R, 45, zz) (44, 2882) = bd (C 7 [(2, 45)] (I, up3 [] R, 46, zz)) (fun v h => Run PG C 0 65 [(2, 0)] (v.toList ++ [(2, 45), (2, 0)]) h (54, 3375)) := (rt_eq CD_0 [] 4 57 _ _ _ _).trans (Eq.refl _)
set_option maxRecDepth 20000 in
theorem CT_0_65 (C : Cal) : Run PG C 0 65 [(2, 0)] [(2, 45), (2, 0)] (I, R, 55, zz) (54, 3375) = Run PG C 0 68 [(2, 0)] [] (I, up3 [(0, 7, 46)] R, 55, zz) (54, 3375) := (rt_eq CD_0 [] 1 65 _ _ _ _).trans (Eq.refl _)
set_option maxRecDepth 20000 in
theorem CT_0_68 (C : Cal) : Run PG C 0 68 [(2, 0)] [] (I, R, 55, zz) (54, 3375) = bd (C 8 [(2, 55)] (I, up3 [] R, 56, zz)) (fun v h => Run PG C 0 76 [(2, 0)] (v.toList ++ [(2, 55), (2, 0)]) h (67, 5155)) := (rt_eq CD_0 [] 4 68 _ _ _ _).trans (Eq.refl _)
set_option maxRecDepth 20000 in
theorem CT_0_76 (C : Cal) : Run PG C 0 76 [(2, 0)] [(2, 55), (2, 0)] (I, R, 68, zz) (67, 5155) = Run PG C 0 79 [(2, 0)] [] (I, up3 [(0, 8, 56)] R, 68, zz) (67, 5155) := (rt_eq CD_0 [] 1 76 _ _ _ _).trans (Eq.refl _)
set_option maxRecDepth 20000 in
theorem CT_0_79 (C : Cal) : Run PG C 0 79 [(2, 0)] [] (I, R, 68, zz) (67, 5155) = bd (C 9 [(2, 68)] (I, up3 [] R, 69, zz)) (fun v h => Run PG C 0 87 [(2, 0)] (v.toList ++ [(2, 68), (2, 0)]) h (71, 7679)) := (rt_eq CD_0 [] 4 79 _ _ _ _).trans (Eq.refl _)
set_option maxRecDepth 20000 in
theorem CT_0_87 (C : Cal) : Run PG C 0 87 [(2, 0)] [(2, 68), (2, 0)] (I, R, 72, zz) (71, 7679) = Run PG C 0 90 [(2, 0)] [] (I, up3 [(0, 9, 69)] R, 72, zz) (71, 7679) := (rt_eq CD_0 [] 1 87 _ _ _ _).trans (Eq.refl _)
set_option maxRecDepth 20000 in
theorem CT_0_90 (C : Cal) : Run PG C 0 90 [(2, 0)] [] (I, R, 72, zz) (71, 7679) = bd (C 10 [(2, 72)] (I, up3 [] R, 73, zz)) (fun v h => Run PG C 0 98 [(2, 0)] (v.toList ++ [(2, 72), (2, 0)]) h (76, 7734)) := (rt_eq CD_0 [] 4 90 _ _ _ _).trans (Eq.refl _)
set_option maxRecDepth 20000 in
theorem CT_0_98 (C : Cal) : Run PG C 0 98 [(2, 0)] [(2, 72), (2, 0)] (I, R, 77, zz) (76, 7734) = Run PG C 0 101 [(2, 0)] [] (I, up3 [(0, 10, 73)] R, 77, zz) (76, 7734) := (rt_eq CD_0 [] 1 98 _ _ _ _).trans (Eq.refl _)
set_option maxRecDepth 20000 in
theorem CT_0_101 (C : Cal) : Run PG C 0 101 [(2, 0)] [] (I, R, 77, zz) (76, 7734) = bd (C 11 [(2, 77)] (I, up3 [] R, 78, zz)) (fun v h => Run PG C 0 109 [(2, 0)] (v.toList ++ [(2, 77), (2, 0)]) h (81, 7804)) := (rt_eq CD_0 [] 4 101 _ _ _ _).trans (Eq.refl _)
set_option maxRecDepth 20000 in
theorem CT_0_109 (C : Cal) : Run PG C 0 109 [(2, 0)] [(2, 77), (2, 0)] (I, R, 82, zz) (81, 7804) = Run PG C 0 112 [(2, 0)] [] (I, up3 [(0, 11, 78)] R, 82, zz) (81, 7804) := (rt_eq CD_0 [] 1 109 _ _ _ _).trans (Eq.refl _)
set_option maxRecDepth 20000 in
theorem CT_0_112 (C : Cal) : Run PG C 0 112 [(2, 0)] [] (I, R, 82, zz) (81, 7804) = some (none, (I, up3 [] R, 82, zz)) := (rt_eq CD_0 [] 1 112 _ _ _ _).trans (Eq.refl _)
theorem N_0 (d : Nat) (I R : Nat → Nat → Int) (zz : Nat × (Nat → Int)) : Call PG (d + 3) 0 [(2, 0)] (I, R, 1, zz) = some (none, ((up2 (pc (up2 (pc (pc (pc (pc (pc I 34 (fl (I 34) 12 (-1))) 37 (fl ((pc I 34 (fl (I 34) 12 (-1))) 37) 12 (-2))) 39 (fl ((pc (pc I 34 (fl (I 34) 12 (-1))) 37 (fl ((pc I 34 (fl (I 34) 12 (-1))) 37) 12 (-2))) 39) 12 (-1))) 44 (fl ((pc (pc (pc I 34 (fl (I 34) 12 (-1))) 37 (fl ((pc I 34 (fl (I 34) 12 (-1))) 37) 12 (-2))) 39 (fl ((pc (pc I 34 (fl (I 34) 12 (-1))) 37 (fl ((pc I 34 (fl (I 34) 12 (-1))) 37) 12 (-2))) 39) 12 (-1))) 44) 12 (-2))) 70 (fl ((pc (pc (pc (pc I 34 (fl (I 34) 12 (-1))) 37 (fl ((pc I 34 (fl (I 34) 12 (-1))) 37) 12 (-2))) 39 (fl ((pc (pc I 34 (fl (I 34) 12 (-1))) 37 (fl ((pc I 34 (fl (I 34) 12 (-1))) 37) 12 (-2))) 39) 12 (-1))) 44 (fl ((pc (pc (pc I 34 (fl (I 34) 12 (-1))) 37 (fl ((pc I 34 (fl (I 34) 12 (-1))) 37) 12 (-2))) 39 (fl ((pc (pc I 34 (fl (I 34) 12 (-1))) 37 (fl ((pc I 34 (fl (I 34) 12 (-1))) 37) 12 (-2))) 39) 12 (-1))) 44) 12 (-2))) 70) 2400 (-1))) 72 2 (1)) 76 (fl ((up2 (pc (pc (pc (pc (pc I 34 (fl (I 34) 12 (-1))) 37 (fl ((pc I 34 (fl (I 34) 12 (-1))) 37) 12 (-2))) 39 (fl ((pc (pc I 34 (fl (I 34) 12 (-1))) 37 (fl ((pc I 34 (fl (I 34) 12 (-1))) 37) 12 (-2))) 39) 12 (-1))) 44 (fl ((pc (pc (pc I 34 (fl (I 34) 12 (-1))) 37 (fl ((pc I 34 (fl (I 34) 12 (-1))) 37) 12 (-2))) 39 (fl ((pc (pc I 34 (fl (I 34) 12 (-1))) 37 (fl ((pc I 34 (fl (I 34) 12 (-1))) 37) 12 (-2))) 39) 12 (-1))) 44) 12 (-2))) 70 (fl ((pc (pc (pc (pc I 34 (fl (I 34) 12 (-1))) 37 (fl ((pc I 34 (fl (I 34) 12 (-1))) 37) 12 (-2))) 39 (fl ((pc (pc I 34 (fl (I 34) 12 (-1))) 37 (fl ((pc I 34 (fl (I 34) 12 (-1))) 37) 12 (-2))) 39) 12 (-1))) 44 (fl ((pc (pc (pc I 34 (fl (I 34) 12 (-1))) 37 (fl ((pc I 34 (fl (I 34) 12 (-1))) 37) 12 (-2))) 39 (fl ((pc (pc I 34 (fl (I 34) 12 (-1))) 37 (fl ((pc I 34 (fl (I 34) 12 (-1))) 37) 12 (-2))) 39) 12 (-1))) 44) 12 (-2))) 70) 2400 (-1))) 72 2 (1)) 76) 12 (-1))) 77 5 (5)), up3 [(0, 11, 78), (77, 4, 82), (77, 3, 81), (77, 2, 80), (77, 1, 79), (0, 10, 73), (72, 5, 77), (72, 4, 76), (72, 3, 75), (72, 1, 74), (0, 9, 69), (68, 3, 72), (68, 2, 71), (68, 1, 70), (0, 8, 56), (55, 15, 68), (55, 14, 67), (55, 12, 66), (55, 11, 65), (55, 10, 64), (55, 9, 63), (55, 8, 62), (55, 6, 61), (55, 5, 60), (55, 3, 59), (55, 2, 58), (55, 1, 57), (0, 7, 46), (45, 12, 55), (45, 11, 54), (45, 10, 53), (45, 9, 52), (45, 8, 51), (45, 7, 50), (45, 6, 49), (45, 5, 48), (45, 4, 47), (0, 6, 39), (38, 5, 45), (38, 4, 44), (38, 3, 43), (38, 2, 42), (38, 1, 41), (38, 0, 40), (0, 5, 26), (25, 14, 38), (25, 13, 37), (25, 12, 36), (25, 11, 35), (25, 10, 34), (25, 9, 33), (25, 7, 32), (25, 6, 31), (25, 5, 30), (25, 4, 29), (25, 3, 28), (25, 2, 27), (0, 4, 10), (9, 7, 25), (9, 6, 24), (9, 4, 23), (9, 3, 13), (12, 14, 22), (12, 12, 21), (12, 11, 20), (12, 10, 19), (12, 9, 18), (12, 8, 17), (12, 7, 16), (12, 6, 15), (12, 4, 14), (9, 2, 12), (9, 0, 11), (0, 3, 3), (2, 5, 9), (2, 4, 8), (2, 3, 7), (2, 2, 6), (2, 1, 5), (2, 0, 4), (0, 1, 2)] R, 82, zz)) := (show Call PG (d + 3) 0 [(2, 0)] (I, R, 1, zz) = Run PG (Call PG (d + 2)) 0 0 [(2, 0)] [] (I, R, 1, zz) (0, 0) from rfl).trans ((CT_0_0 ..).trans ((CT_0_13 ..).trans (bd_t (N_1 ..) ((CT_0_21 ..).trans ((CT_0_24 ..).trans (bd_t (N_2 ..) ((CT_0_32 ..).trans ((CT_0_35 ..).trans (bd_t (N_5 ..) ((CT_0_43 ..).trans ((CT_0_46 ..).trans (bd_t (N_6 ..) ((CT_0_54 ..).trans ((CT_0_57 ..).trans (bd_t (N_7 ..) ((CT_0_65 ..).trans ((CT_0_68 ..).trans (bd_t (N_8 ..) ((CT_0_76 ..).trans ((CT_0_79 ..).trans (bd_t (N_9 ..) ((CT_0_87 ..).trans ((CT_0_90 ..).trans (bd_t (N_10 ..) ((CT_0_98 ..).trans ((CT_0_101 ..).trans (bd_t (N_11 ..) ((CT_0_109 ..).trans (CT_0_112 ..)))))))))))))))))))))))))))))
set_option maxRecDepth 20000 in
theorem CT_207_0 (C : Cal) : Run PG C 207 0 [(2, 82)] [] (I, R, 83, zz) (0, 0) = Run PG C 207 13 [(2, 82)] [] (I, up3 [(82, 0, 84)] R, 84, zz) (1, 160) := (rt_eq CD_207 [] 6 0 _ _ _ _).trans (Eq.refl _)
set_option maxRecDepth 20000 in
theorem CT_207_13 (C : Cal) : Run PG C 207 13 [(2, 82)] [] (I, R, 84, zz) (1, 160) = Run PG C 207 18 [(2, 82)] [] ((up2 I 82 19 (1)), up3 [] R, 84, zz) (1, 160) := (rt_eq CD_207 [] 3 13 _ _ _ _).trans (Eq.refl _)
set_option maxRecDepth 20000 in
theorem CT_207_18 (C : Cal) : Run PG C 207 18 [(2, 82)] [] (I, R, 84, zz) (1, 160) = Run PG C 207 23 [(2, 82)] [] ((up2 I 82 20 (5)), up3 [] R, 84, zz) (1, 160) := (rt_eq CD_207 [] 3 18 _ _ _ _).trans (Eq.refl _)
set_option maxRecDepth 20000 in
theorem CT_207_23 (C : Cal) : Run PG C 207 23 [(2, 82)] [] (I, R, 84, zz) (1, 160) = Run PG C 207 31 [(2, 82)] [] (I, up3 [(82, 21, 85)] R, 85, zz) (2, 172) := (rt_eq CD_207 [] 4 23 _ _ _ _).trans (Eq.refl _)
set_option maxRecDepth 20000 in
theorem CT_207_31 (C : Cal) : Run PG C 207 31 [(2, 82)] [] (I, R, 85, zz) (2, 172) = Run PG C 207 39 [(2, 82)] [] (I, up3 [(82, 22, 86)] R, 86, zz) (3, 184) := (rt_eq CD_207 [] 4 31 _ _ _ _).trans (Eq.refl _)
set_option maxRecDepth 20000 in
theorem CT_207_39 (C : Cal) : Run PG C 207 39 [(2, 82)] [] (I, R, 86, zz) (3, 184) = Run PG C 207 47 [(2, 82)] [] (I, up3 [(82, 23, 87)] R, 87, zz) (4, 196) := (rt_eq CD_207 [] 4 39 _ _ _ _).trans (Eq.refl _)
set_option maxRecDepth 20000 in
theorem CT_207_47 (C : Cal) : Run PG C 207 47 [(2, 82)] [] (I, R, 87, zz) (4, 196) = Run PG C 207 55 [(2, 82)] [] (I, up3 [(82, 24, 88)] R, 88, zz) (5, 208) := (rt_eq CD_207 [] 4 47 _ _ _ _).trans (Eq.refl _)
set_option maxRecDepth 20000 in
theorem CT_207_55 (C : Cal) : Run PG C 207 55 [(2, 82)] [] (I, R, 88, zz) (5, 208) = Run PG C 207 63 [(2, 82)] [] (I, up3 [(82, 25, 89)] R, 89, zz) (6, 220) := (rt_eq CD_207 [] 4 55 _ _ _ _).trans (Eq.refl _)
set_option maxRecDepth 20000 in
theorem CT_207_63 (C : Cal) : Run PG C 207 63 [(2, 82)] [] (I, R, 89, zz) (6, 220) = Run PG C 207 71 [(2, 82)] [] (I, up3 [(82, 26, 90)] R, 90, zz) (7, 232) := (rt_eq CD_207 [] 4 63 _ _ _ _).trans (Eq.refl _)
set_option maxRecDepth 20000 in
theorem CT_207_71 (C : Cal) : Run PG C 207 71 [(2, 82)] [] (I, R, 90, zz) (7, 232) = Run PG C 207 79 [(2, 82)] [] (I, up3 [(82, 27, 91)] R, 91, zz) (8, 244) := (rt_eq CD_207 [] 4 71 _ _ _ _).trans (Eq.refl _)
set_option maxRecDepth 20000 in
theorem CT_207_79 (C : Cal) : Run PG C 207 79 [(2, 82)] [] (I, R, 91, zz) (8, 244) = Run PG C 207 87 [(2, 82)] [] (I, up3 [(82, 28, 92)] R, 92, zz) (9, 284) := (rt_eq CD_207 [] 4 79 _ _ _ _).trans (Eq.refl _)
set_option maxRecDepth 20000 in
theorem CT_207_87 (C : Cal) : Run PG C 207 87 [(2, 82)] [] (I, R, 92, zz) (9, 284) = Run PG C 207 95 [(2, 82)] [] (I, up3 [(82, 29, 93)] R, 93, zz) (10, 324) := (rt_eq CD_207 [] 4 87 _ _ _ _).trans (Eq.refl _)
set_option maxRecDepth 20000 in
theorem CT_207_95 (C : Cal) : Run PG C 207 95 [(2, 82)] [] (I, R, 93, zz) (10, 324) = Run PG C 207 103 [(2, 82)] [] (I, up3 [(82, 30, 94)] R, 94, zz) (11, 364) := (rt_eq CD_207 [] 4 95 _ _ _ _).trans (Eq.refl _)
set_option maxRecDepth 20000 in
theorem CT_207_103 (C : Cal) : Run PG C 207 103 [(2, 82)] [] (I, R, 94, zz) (11, 364) = Run PG C 207 111 [(2, 82)] [] (I, up3 [(82, 31, 95)] R, 95, zz) (12, 394) := (rt_eq CD_207 [] 4 103 _ _ _ _).trans (Eq.refl _)
set_option maxRecDepth 20000 in
theorem CT_207_111 (C : Cal) : Run PG C 207 111 [(2, 82)] [] (I, R, 95, zz) (12, 394) = Run PG C 207 119 [(2, 82)] [] (I, up3 [(82, 32, 96)] R, 96, zz) (13, 424) := (rt_eq CD_207 [] 4 111 _ _ _ _).trans (Eq.refl _)
set_option maxRecDepth 20000 in
theorem CT_207_119 (C : Cal) : Run PG C 207 119 [(2, 82)] [] (I, R, 96, zz) (13, 424) = Run PG C 207 127 [(2, 82)] [] (I, up3 [(82, 33, 97)] R, 97, zz) (14, 454) := (rt_eq CD_207 [] 4 119 _ _ _ _).trans (Eq.refl _)
set_option maxRecDepth 20000 in
theorem CT_207_127 (C : Cal) : Run PG C 207 127 [(2, 82)] [] (I, R, 97, zz) (14, 454) = Run PG C 207 135 [(2, 82)] [] (I, up3 [(82, 34, 98)] R, 98, zz) (15, 484) := (rt_eq CD_207 [] 4 127 _ _ _ _).trans (Eq.refl _)
set_option maxRecDepth 20000 in
theorem CT_207_135 (C : Cal) : Run PG C 207 135 [(2, 82)] [] (I, R, 98, zz) (15, 484) = Run PG C 207 144 [(2, 82)] [] (I, up3 [(82, 35, 99)] R, 99, zz) (16, 5284) := (rt_eq CD_207 [] 4 135 _ _ _ _).trans (Eq.refl _)
set_option maxRecDepth 20000 in
theorem CT_207_144 (C : Cal) : Run PG C 207 144 [(2, 82)] [] (I, R, 99, zz) (16, 5284) = Run PG C 207 153 [(2, 82)] [] (I, up3 [(82, 36, 100)] R, 100, zz) (17, 5644) := (rt_eq CD_207 [] 4 144 _ _ _ _).trans (Eq.refl _)
set_option maxRecDepth 20000 in
theorem CT_207_153 (C : Cal) : Run PG C 207 153 [(2, 82)] [] (I, R, 100, zz) (17, 5644) = Run PG C 207 162 [(2, 82)] [] (I, up3 [(82, 37, 101)] R, 101, zz) (18, 6004) := (rt_eq CD_207 [] 4 153 _ _ _ _).trans (Eq.refl _)
set_option maxRecDepth 20000 in
theorem CT_207_162 (C : Cal) : Run PG C 207 162 [(2, 82)] [] (I, R, 101, zz) (18, 6004) = Run PG C 207 171 [(2, 82)] [] (I, up3 [(82, 38, 102)] R, 102, zz) (19, 6364) := (rt_eq CD_207 [] 4 162 _ _ _ _).trans (Eq.refl _)
set_option maxRecDepth 20000 in
theorem CT_207_171 (C : Cal) : Run PG C 207 171 [(2, 82)] [] (I, R, 102, zz) (19, 6364) = Run PG C 207 180 [(2, 82)] [] (I, up3 [(82, 39, 103)] R, 103, zz) (20, 6724) := (rt_eq CD_207 [] 4 171 _ _ _ _).trans (Eq.refl _)
set_option maxRecDepth 20000 in
theorem CT_207_180 (C : Cal) : Run PG C 207 180 [(2, 82)] [] (I, R, 103, zz) (20, 6724) = Run PG C 207 189 [(2, 82)] [] (I, up3 [(82, 40, 104)] R, 104, zz) (21, 7084) := (rt_eq CD_207 [] 4 180 _ _ _ _).trans (Eq.refl _)
set_option maxRecDepth 20000 in
theorem CT_207_189 (C : Cal) : Run PG C 207 189 [(2, 82)] [] (I, R, 104, zz) (21, 7084) = Run PG C 207 198 [(2, 82)] [] (I, up3 [(82, 41, 105)] R, 105, zz) (22, 7444) := (rt_eq CD_207 [] 4 189 _ _ _ _).trans (Eq.refl _)
set_option maxRecDepth 20000 in
theorem CT_207_198 (C : Cal) : Run PG C 207 198 [(2, 82)] [] (I, R, 105, zz) (22, 7444) = Run PG C 207 207 [(2, 82)] [] (I, up3 [(82, 42, 106)] R, 106, zz) (23, 7804) := (rt_eq CD_207 [] 4 198 _ _ _ _).trans (Eq.refl _)
set_option maxRecDepth 20000 in
theorem CT_207_207 (C : Cal) : Run PG C 207 207 [(2, 82)] [] (I, R, 106, zz) (23, 7804) = Run PG C 207 216 [(2, 82)] [] (I, up3 [(82, 43, 107)] R, 107, zz) (24, 12604) := (rt_eq CD_207 [] 4 207 _ _ _ _).trans (Eq.refl _)
set_option maxRecDepth 20000 in
theorem CT_207_216 (C : Cal) : Run PG C 207 216 [(2, 82)] [] (I, R, 107, zz) (24, 12604) = Run PG C 207 225 [(2, 82)] [] (I, up3 [(82, 44, 108)] R, 108, zz) (25, 17404) := (rt_eq CD_207 [] 4 216 _ _ _ _).trans (Eq.refl _)
set_option maxRecDepth 20000 in
theorem CT_207_225 (C : Cal) : Run PG C 207 225 [(2, 82)] [] (I, R, 108, zz) (25, 17404) = Run PG C 207 234 [(2, 82)] [] (I, up3 [(82, 54, 109)] R, 109, zz) (26, 17604) := (rt_eq CD_207 [] 4 225 _ _ _ _).trans (Eq.refl _)
set_option maxRecDepth 20000 in
theorem CT_207_234 (C : Cal) : Run PG C 207 234 [(2, 82)] [] (I, R, 109, zz) (26, 17604) = Run PG C 207 243 [(2, 82)] [] (I, up3 [(82, 55, 110)] R, 110, zz) (27, 17964) := (rt_eq CD_207 [] 4 234 _ _ _ _).trans (Eq.refl _)
set_option maxRecDepth 20000 in
theorem CT_207_243 (C : Cal) : Run PG C 207 243 [(2, 82)] [] (I, R, 110, zz) (27, 17964) = Run PG C 207 252 [(2, 82)] [] (I, up3 [(82, 57, 111)] R, 111, zz) (28, 18092) := (rt_eq CD_207 [] 4 243 _ _ _ _).trans (Eq.refl _)
set_option maxRecDepth 20000 in
theorem CT_207_252 (C : Cal) : Run PG C 207 252 [(2, 82)] [] (I, R, 111, zz) (28, 18092) = Run PG C 207 261 [(2, 82)] [] (I, up3 [(82, 58, 112)] R, 112, zz) (29, 18220) := (rt_eq CD_207 [] 4 252 _ _ _ _).trans (Eq.refl _)
set_option maxRecDepth 20000 in
theorem CT_207_261 (C : Cal) : Run PG C 207 261 [(2, 82)] [] (I, R, 112, zz) (29, 18220) = Run PG C 207 270 [(2, 82)] [] (I, up3 [(82, 59, 113)] R, 113, zz) (30, 18420) := (rt_eq CD_207 [] 4 261 _ _ _ _).trans (Eq.refl _)
set_option maxRecDepth 20000 in
theorem CT_207_270 (C : Cal) : Run PG C 207 270 [(2, 82)] [] (I, R, 113, zz) (30, 18420) = Run PG C 207 279 [(2, 82)] [] (I, up3 [(82, 60, 114)] R, 114, zz) (31, 18620) := (rt_eq CD_207 [] 4 270 _ _ _ _).trans (Eq.refl _)
set_option maxRecDepth 20000 in
theorem CT_207_279 (C : Cal) : Run PG C 207 279 [(2, 82)] [] (I, R, 114, zz) (31, 18620) = Run PG C 207 287 [(2, 82)] [] (I, up3 [(82, 62, 115)] R, 115, zz) (32, 18700) := (rt_eq CD_207 [] 4 279 _ _ _ _).trans (Eq.refl _)
set_option maxRecDepth 20000 in
theorem CT_207_287 (C : Cal) : Run PG C 207 287 [(2, 82)] [] (I, R, 115, zz) (32, 18700) = Run PG C 207 295 [(2, 82)] [] (I, up3 [(82, 63, 116)] R, 116, zz) (33, 18712) := (rt_eq CD_207 [] 4 287 _ _ _ _).trans (Eq.refl _)
set_option maxRecDepth 20000 in
theorem CT_207_295 (C : Cal) : Run PG C 207 295 [(2, 82)] [] (I, R, 116, zz) (33, 18712) = Run PG C 207 303 [(2, 82)] [] (I, up3 [(82, 64, 117)] R, 117, zz) (34, 18724) := (rt_eq CD_207 [] 4 295 _ _ _ _).trans (Eq.refl _)
set_option maxRecDepth 20000 in
theorem CT_207_303 (C : Cal) : Run PG C 207 303 [(2, 82)] [] (I, R, 117, zz) (34, 18724) = Run PG C 207 311 [(2, 82)] [] (I, up3 [(82, 65, 118)] R, 118, zz) (35, 18736) := (rt_eq CD_207 [] 4 303 _ _ _ _).trans (Eq.refl _)
set_option maxRecDepth 20000 in
theorem CT_207_311 (C : Cal) : Run PG C 207 311 [(2, 82)] [] (I, R, 118, zz) (35, 18736) = Run PG C 207 319 [(2, 82)] [] (I, up3 [(82, 66, 119)] R, 119, zz) (36, 18748) := (rt_eq CD_207 [] 4 311 _ _ _ _).trans (Eq.refl _)
set_option maxRecDepth 20000 in
theorem CT_207_319 (C : Cal) : Run PG C 207 319 [(2, 82)] [] (I, R, 119, zz) (36, 18748) = Run PG C 207 328 [(2, 82)] [] (I, up3 [(82, 67, 120)] R, 120, zz) (37, 18898) := (rt_eq CD_207 [] 4 319 _ _ _ _).trans (Eq.refl _)
set_option maxRecDepth 20000 in
theorem CT_207_328 (C : Cal) : Run PG C 207 328 [(2, 82)] [] (I, R, 120, zz) (37, 18898) = Run PG C 207 337 [(2, 82)] [] (I, up3 [(82, 68, 121)] R, 121, zz) (38, 19048) := (rt_eq CD_207 [] 4 328 _ _ _ _).trans (Eq.refl _)
set_option maxRecDepth 20000 in
theorem CT_207_337 (C : Cal) : Run PG C 207 337 [(2, 82)] [] (I, R, 121, zz) (38, 19048) = Run PG C 207 346 [(2, 82)] [] (I, up3 [(82, 69, 122)] R, 122, zz) (39, 19198) := (rt_eq CD_207 [] 4 337 _ _ _ _).trans (Eq.refl _)
set_option maxRecDepth 20000 in
theorem CT_207_346 (C : Cal) : Run PG C 207 346 [(2, 82)] [] (I, R, 122, zz) (39, 19198) = Run PG C 207 355 [(2, 82)] [] (I, up3 [(82, 70, 123)] R, 123, zz) (40, 19348) := (rt_eq CD_207 [] 4 346 _ _ _ _).trans (Eq.refl _)
set_option maxRecDepth 20000 in
theorem CT_207_355 (C : Cal) : Run PG C 207 355 [(2, 82)] [] (I, R, 123, zz) (40, 19348) = Run PG C 207 364 [(2, 82)] [] (I, up3 [(82, 71, 124)] R, 124, zz) (41, 19498) := (rt_eq CD_207 [] 4 355 _ _ _ _).trans (Eq.refl _)
set_option maxRecDepth 20000 in
theorem CT_207_364 (C : Cal) : Run PG C 207 364 [(2, 82)] [] (I, R, 124, zz) (41, 19498) = Run PG C 207 372 [(2, 82)] [] (I, up3 [(82, 72, 125)] R, 125, zz) (42, 19578) := (rt_eq CD_207 [] 4 364 _ _ _ _).trans (Eq.refl _)
set_option maxRecDepth 20000 in
theorem CT_207_372 (C : Cal) : Run PG C 207 372 [(2, 82)] [] (I, R, 125, zz) (42, 19578) = Run PG C 207 380 [(2, 82)] [] (I, up3 [(82, 73, 126)] R, 126, zz) (43, 19658) := (rt_eq CD_207 [] 4 372 _ _ _ _).trans (Eq.refl _)
set_option maxRecDepth 20000 in
theorem CT_207_380 (C : Cal) : Run PG C 207 380 [(2, 82)] [] (I, R, 126, zz) (43, 19658) = Run PG C 207 388 [(2, 82)] [] (I, up3 [(82, 74, 127)] R, 127, zz) (44, 19738) := (rt_eq CD_207 [] 4 380 _ _ _ _).trans (Eq.refl _)
set_option maxRecDepth 20000 in
theorem CT_207_388 (C : Cal) : Run PG C 207 388 [(2, 82)] [] (I, R, 127, zz) (44, 19738) = Run PG C 207 397 [(2, 82)] [] (I, up3 [(82, 75, 128)] R, 128, zz) (45, 19888) := (rt_eq CD_207 [] 4 388 _ _ _ _).trans (Eq.refl _)
set_option maxRecDepth 20000 in
theorem CT_207_397 (C : Cal) : Run PG C 207 397 [(2, 82)] [] (I, R, 128, zz) (45, 19888) = Run PG C 207 406 [(2, 82)] [] (I, up3 [(82, 76, 129)] R, 129, zz) (46, 20038) := (rt_eq CD_207 [] 4 397 _ _ _ _).trans (Eq.refl _)
set_option maxRecDepth 20000 in
theorem CT_207_406 (C : Cal) : Run PG C 207 406 [(2, 82)] [] (I, R, 129, zz) (46, 20038) = Run PG C 207 414 [(2, 82)] [] (I, up3 [(82, 77, 130)] R, 130, zz) (47, 20118) := (rt_eq CD_207 [] 4 406 _ _ _ _).trans (Eq.refl _)
set_option maxRecDepth 20000 in
theorem CT_207_414 (C : Cal) : Run PG C 207 414 [(2, 82)] [] (I, R, 130, zz) (47, 20118) = Run PG C 207 422 [(2, 82)] [] (I, up3 [(82, 78, 131)] R, 131, zz) (48, 20133) := (rt_eq CD_207 [] 4 414 _ _ _ _).trans (Eq.refl _)
set_option maxRecDepth 20000 in
theorem CT_207_422 (C : Cal) : Run PG C 207 422 [(2, 82)] [] (I, R, 131, zz) (48, 20133) = Run PG C 207 430 [(2, 82)] [] (I, up3 [(82, 79, 132)] R, 132, zz) (49, 20148) := (rt_eq CD_207 [] 4 422 _ _ _ _).trans (Eq.refl _)
set_option maxRecDepth 20000 in
theorem CT_207_430 (C : Cal) : Run PG C 207 430 [(2, 82)] [] (I, R, 132, zz) (49, 20148) = Run PG C 207 438 [(2, 82)] [] (I, up3 [(82, 80, 133)] R, 133, zz) (50, 20163) := (rt_eq CD_207 [] 4 430 _ _ _ _).trans (Eq.refl _)
set_option maxRecDepth 20000 in
theorem CT_207_438 (C : Cal) : Run PG C 207 438 [(2, 82)] [] (I, R, 133, zz) (50, 20163) = Run PG C 207 446 [(2, 82)] [] (I, up3 [(82, 81, 134)] R, 134, zz) (51, 20178) := (rt_eq CD_207 [] 4 438 _ _ _ _).trans (Eq.refl _)
set_option maxRecDepth 20000 in
theorem CT_207_446 (C : Cal) : Run PG C 207 446 [(2, 82)] [] (I, R, 134, zz) (51, 20178) = Run PG C 207 454 [(2, 82)] [] (I, up3 [(82, 82, 135)] R, 135, zz) (52, 20208) := (rt_eq CD_207 [] 4 446 _ _ _ _).trans (Eq.refl _)
set_option maxRecDepth 20000 in
theorem CT_207_454 (C : Cal) : Run PG C 207 454 [(2, 82)] [] (I, R, 135, zz) (52, 20208) = Run PG C 207 462 [(2, 82)] [] (I, up3 [(82, 83, 136)] R, 136, zz) (53, 20238) := (rt_eq CD_207 [] 4 454 _ _ _ _).trans (Eq.refl _)
set_option maxRecDepth 20000 in
theorem CT_207_462 (C : Cal) : Run PG C 207 462 [(2, 82)] [] (I, R, 136, zz) (53, 20238) = Run PG C 207 470 [(2, 82)] [] (I, up3 [(82, 84, 137)] R, 137, zz) (54, 20268) := (rt_eq CD_207 [] 4 462 _ _ _ _).trans (Eq.refl _)
set_option maxRecDepth 20000 in
theorem CT_207_470 (C : Cal) : Run PG C 207 470 [(2, 82)] [] (I, R, 137, zz) (54, 20268) = Run PG C 207 478 [(2, 82)] [] (I, up3 [(82, 85, 138)] R, 138, zz) (55, 20298) := (rt_eq CD_207 [] 4 470 _ _ _ _).trans (Eq.refl _)
set_option maxRecDepth 20000 in
theorem CT_207_478 (C : Cal) : Run PG C 207 478 [(2, 82)] [] (I, R, 138, zz) (55, 20298) = Run PG C 207 486 [(2, 82)] [] (I, up3 [(82, 86, 139)] R, 139, zz) (56, 20328) := (rt_eq CD_207 [] 4 478 _ _ _ _).trans (Eq.refl _)
set_option maxRecDepth 20000 in
theorem CT_207_486 (C : Cal) : Run PG C 207 486 [(2, 82)] [] (I, R, 139, zz) (56, 20328) = Run PG C 207 494 [(2, 82)] [] (I, up3 [(82, 87, 140)] R, 140, zz) (57, 20358) := (rt_eq CD_207 [] 4 486 _ _ _ _).trans (Eq.refl _)
set_option maxRecDepth 20000 in
theorem CT_207_494 (C : Cal) : Run PG C 207 494 [(2, 82)] [] (I, R, 140, zz) (57, 20358) = Run PG C 207 502 [(2, 82)] [] (I, up3 [(82, 88, 141)] R, 141, zz) (58, 20388) := (rt_eq CD_207 [] 4 494 _ _ _ _).trans (Eq.refl _)
set_option maxRecDepth 20000 in
theorem CT_207_502 (C : Cal) : Run PG C 207 502 [(2, 82)] [] (I, R, 141, zz) (58, 20388) = Run PG C 207 510 [(2, 82)] [] (I, up3 [(82, 89, 142)] R, 142, zz) (59, 20448) := (rt_eq CD_207 [] 4 502 _ _ _ _).trans (Eq.refl _)
set_option maxRecDepth 20000 in
theorem CT_207_510 (C : Cal) : Run PG C 207 510 [(2, 82)] [] (I, R, 142, zz) (59, 20448) = Run PG C 207 518 [(2, 82)] [] (I, up3 [(82, 90, 143)] R, 143, zz) (60, 20508) := (rt_eq CD_207 [] 4 510 _ _ _ _).trans (Eq.refl _)
set_option maxRecDepth 20000 in
theorem CT_207_518 (C : Cal) : Run PG C 207 518 [(2, 82)] [] (I, R, 143, zz) (60, 20508) = Run PG C 207 526 [(2, 82)] [] (I, up3 [(82, 91, 144)] R, 144, zz) (61, 20568) := (rt_eq CD_207 [] 4 518 _ _ _ _).trans (Eq.refl _)
set_option maxRecDepth 20000 in
theorem CT_207_526 (C : Cal) : Run PG C 207 526 [(2, 82)] [] (I, R, 144, zz) (61, 20568) = Run PG C 207 534 [(2, 82)] [] (I, up3 [(82, 92, 145)] R, 145, zz) (62, 20598) := (rt_eq CD_207 [] 4 526 _ _ _ _).trans (Eq.refl _)
set_option maxRecDepth 20000 in
theorem CT_207_534 (C : Cal) : Run PG C 207 534 [(2, 82)] [] (I, R, 145, zz) (62, 20598) = Run PG C 207 542 [(2, 82)] [] (I, up3 [(82, 93, 146)] R, 146, zz) (63, 20658) := (rt_eq CD_207 [] 4 534 _ _ _ _).trans (Eq.refl _)
set_option maxRecDepth 20000 in
theorem CT_207_542 (C : Cal) : Run PG C 207 542 [(2, 82)] [] (I, R, 146, zz) (63, 20658) = Run PG C 207 550 [(2, 82)] [] (I, up3 [(82, 94, 147)] R, 147, zz) (64, 20718) := (rt_eq CD_207 [] 4 542 _ _ _ _).trans (Eq.refl _)
set_option maxRecDepth 20000 in
theorem CT_207_550 (C : Cal) : Run PG C 207 550 [(2, 82)] [] (I, R, 147, zz) (64, 20718) = Run PG C 207 559 [(2, 82)] [] (I, up3 [(82, 95, 148)] R, 148, zz) (65, 21018) := (rt_eq CD_207 [] 4 550 _ _ _ _).trans (Eq.refl _)
set_option maxRecDepth 20000 in
theorem CT_207_559 (C : Cal) : Run PG C 207 559 [(2, 82)] [] (I, R, 148, zz) (65, 21018) = Run PG C 207 568 [(2, 82)] [] (I, up3 [(82, 96, 149)] R, 149, zz) (66, 21318) := (rt_eq CD_207 [] 4 559 _ _ _ _).trans (Eq.refl _)
set_option maxRecDepth 20000 in
theorem CT_207_568 (C : Cal) : Run PG C 207 568 [(2, 82)] [] (I, R, 149, zz) (66, 21318) = Run PG C 207 577 [(2, 82)] [] (I, up3 [(82, 97, 150)] R, 150, zz) (67, 21618) := (rt_eq CD_207 [] 4 568 _ _ _ _).trans (Eq.refl _)
set_option maxRecDepth 20000 in
theorem CT_207_577 (C : Cal) : Run PG C 207 577 [(2, 82)] [] (I, R, 150, zz) (67, 21618) = Run PG C 207 586 [(2, 82)] [] (I, up3 [(82, 98, 151)] R, 151, zz) (68, 21918) := (rt_eq CD_207 [] 4 577 _ _ _ _).trans (Eq.refl _)
set_option maxRecDepth 20000 in
theorem CT_207_586 (C : Cal) : Run PG C 207 586 [(2, 82)] [] (I, R, 151, zz) (68, 21918) = Run PG C 207 595 [(2, 82)] [] (I, up3 [(82, 99, 152)] R, 152, zz) (69, 22218) := (rt_eq CD_207 [] 4 586 _ _ _ _).trans (Eq.refl _)
set_option maxRecDepth 20000 in
theorem CT_207_595 (C : Cal) : Run PG C 207 595 [(2, 82)] [] (I, R, 152, zz) (69, 22218) = Run PG C 207 603 [(2, 82)] [] (I, up3 [(82, 100, 153)] R, 153, zz) (70, 22278) := (rt_eq CD_207 [] 4 595 _ _ _ _).trans (Eq.refl _)
set_option maxRecDepth 20000 in
theorem CT_207_603 (C : Cal) : Run PG C 207 603 [(2, 82)] [] (I, R, 153, zz) (70, 22278) = Run PG C 207 612 [(2, 82)] [] (I, up3 [(82, 101, 154)] R, 154, zz) (71, 24678) := (rt_eq CD_207 [] 4 603 _ _ _ _).trans (Eq.refl _)
set_option maxRecDepth 20000 in
theorem CT_207_612 (C : Cal) : Run PG C 207 612 [(2, 82)] [] (I, R, 154, zz) (71, 24678) = Run PG C 207 621 [(2, 82)] [] (I, up3 [(82, 102, 155)] R, 155, zz) (72, 27078) := (rt_eq CD_207 [] 4 612 _ _ _ _).trans (Eq.refl _)
set_option maxRecDepth 20000 in
theorem CT_207_621 (C : Cal) : Run PG C 207 621 [(2, 82)] [] (I, R, 155, zz) (72, 27078) = Run PG C 207 629 [(2, 82)] [] (I, up3 [(82, 103, 156)] R, 156, zz) (73, 27090) := (rt_eq CD_207 [] 4 621 _ _ _ _).trans (Eq.refl _)
set_option maxRecDepth 20000 in
theorem CT_207_629 (C : Cal) : Run PG C 207 629 [(2, 82)] [] (I, R, 156, zz) (73, 27090) = Run PG C 207 637 [(2, 82)] [] (I, up3 [(82, 104, 157)] R, 157, zz) (74, 27102) := (rt_eq CD_207 [] 4 629 _ _ _ _).trans (Eq.refl _)
set_option maxRecDepth 20000 in
theorem CT_207_637 (C : Cal) : Run PG C 207 637 [(2, 82)] [] (I, R, 157, zz) (74, 27102) = Run PG C 207 645 [(2, 82)] [] (I, up3 [(82, 105, 158)] R, 158, zz) (75, 27114) := (rt_eq CD_207 [] 4 637 _ _ _ _).trans (Eq.refl _)
set_option maxRecDepth 20000 in
theorem CT_207_645 (C : Cal) : Run PG C 207 645 [(2, 82)] [] (I, R, 158, zz) (75, 27114) = Run PG C 207 653 [(2, 82)] [] (I, up3 [(82, 106, 159)] R, 159, zz) (76, 27126) := (rt_eq CD_207 [] 4 645 _ _ _ _).trans (Eq.refl _)
set_option maxRecDepth 20000 in
theorem CT_207_653 (C : Cal) : Run PG C 207 653 [(2, 82)] [] (I, R, 159, zz) (76, 27126) = Run PG C 207 661 [(2, 82)] [] (I, up3 [(82, 107, 160)] R, 160, zz) (77, 27142) := (rt_eq CD_207 [] 4 653 _ _ _ _).trans (Eq.refl _)
set_option maxRecDepth 20000 in
theorem CT_207_661 (C : Cal) : Run PG C 207 661 [(2, 82)] [] (I, R, 160, zz) (77, 27142) = Run PG C 207 669 [(2, 82)] [] (I, up3 [(82, 108, 161)] R, 161, zz) (78, 27158) := (rt_eq CD_207 [] 4 661 _ _ _ _).trans (Eq.refl _)
set_option maxRecDepth 20000 in
theorem CT_207_669 (C : Cal) : Run PG C 207 669 [(2, 82)] [] (I, R, 161, zz) (78, 27158) = Run PG C 207 677 [(2, 82)] [] (I, up3 [(82, 109, 162)] R, 162, zz) (79, 27174) := (rt_eq CD_207 [] 4 669 _ _ _ _).trans (Eq.refl _)
set_option maxRecDepth 20000 in
theorem CT_207_677 (C : Cal) : Run PG C 207 677 [(2, 82)] [] (I, R, 162, zz) (79, 27174) = Run PG C 207 685 [(2, 82)] [] (I, up3 [(82, 110, 163)] R, 163, zz) (80, 27190) := (rt_eq CD_207 [] 4 677 _ _ _ _).trans (Eq.refl _)
set_option maxRecDepth 20000 in
theorem CT_207_685 (C : Cal) : Run PG C 207 685 [(2, 82)] [] (I, R, 163, zz) (80, 27190) = some (none, (I, up3 [] R, 163, zz)) := (rt_eq CD_207 [] 1 685 _ _ _ _).trans (Eq.refl _)
theorem N_207 (d : Nat) (I R : Nat → Nat → Int) (zz : Nat × (Nat → Int)) : Call PG (d + 1) 207 [(2, 82)] (I, R, 83, zz) = some (none, ((up2 (up2 I 82 19 (1)) 82 20 (5)), up3 [(82, 110, 163), (82, 109, 162), (82, 108, 161), (82, 107, 160), (82, 106, 159), (82, 105, 158), (82, 104, 157), (82, 103, 156), (82, 102, 155), (82, 101, 154), (82, 100, 153), (82, 99, 152), (82, 98, 151), (82, 97, 150), (82, 96, 149), (82, 95, 148), (82, 94, 147), (82, 93, 146), (82, 92, 145), (82, 91, 144), (82, 90, 143), (82, 89, 142), (82, 88, 141), (82, 87, 140), (82, 86, 139), (82, 85, 138), (82, 84, 137), (82, 83, 136), (82, 82, 135), (82, 81, 134), (82, 80, 133), (82, 79, 132), (82, 78, 131), (82, 77, 130), (82, 76, 129), (82, 75, 128), (82, 74, 127), (82, 73, 126), (82, 72, 125), (82, 71, 124), (82, 70, 123), (82, 69, 122), (82, 68, 121), (82, 67, 120), (82, 66, 119), (82, 65, 118), (82, 64, 117), (82, 63, 116), (82, 62, 115), (82, 60, 114), (82, 59, 113), (82, 58, 112), (82, 57, 111), (82, 55, 110), (82, 54, 109), (82, 44, 108), (82, 43, 107), (82, 42, 106), (82, 41, 105), (82, 40, 104), (82, 39, 103), (82, 38, 102), (82, 37, 101), (82, 36, 100), (82, 35, 99), (82, 34, 98), (82, 33, 97), (82, 32, 96), (82, 31, 95), (82, 30, 94), (82, 29, 93), (82, 28, 92), (82, 27, 91), (82, 26, 90), (82, 25, 89), (82, 24, 88), (82, 23, 87), (82, 22, 86), (82, 21, 85), (82, 0, 84)] R, 163, zz)) := (show Call PG (d + 1) 207 [(2, 82)] (I, R, 83, zz) = Run PG (Call PG (d + 0)) 207 0 [(2, 82)] [] (I, R, 83, zz) (0, 0) from rfl).trans ((CT_207_0 ..).trans ((CT_207_13 ..).trans ((CT_207_18 ..).trans ((CT_207_23 ..).trans ((CT_207_31 ..).trans ((CT_207_39 ..).trans ((CT_207_47 ..).trans ((CT_207_55 ..).trans ((CT_207_63 ..).trans ((CT_207_71 ..).trans ((CT_207_79 ..).trans ((CT_207_87 ..).trans ((CT_207_95 ..).trans ((CT_207_103 ..).trans ((CT_207_111 ..).trans ((CT_207_119 ..).trans ((CT_207_127 ..).trans ((CT_207_135 ..).trans ((CT_207_144 ..).trans ((CT_207_153 ..).trans ((CT_207_162 ..).trans ((CT_207_171 ..).trans ((CT_207_180 ..).trans ((CT_207_189 ..).trans ((CT_207_198 ..).trans ((CT_207_207 ..).trans ((CT_207_216 ..).trans ((CT_207_225 ..).trans ((CT_207_234 ..).trans ((CT_207_243 ..).trans ((CT_207_252 ..).trans ((CT_207_261 ..).trans ((CT_207_270 ..).trans ((CT_207_279 ..).trans ((CT_207_287 ..).trans ((CT_207_295 ..).trans ((CT_207_303 ..).trans ((CT_207_311 ..).trans ((CT_207_319 ..).trans ((CT_207_328 ..).trans ((CT_207_337 ..).trans ((CT_207_346 ..).trans ((CT_207_355 ..).trans ((CT_207_364 ..).trans ((CT_207_372 ..).trans ((CT_207_380 ..).trans ((CT_207_388 ..).trans ((CT_207_397 ..).trans ((CT_207_406 ..).trans ((CT_207_414 ..).trans ((CT_207_422 ..).trans ((CT_207_430 ..).trans ((CT_207_438 ..).trans ((CT_207_446 ..).trans ((CT_207_454 ..).trans ((CT_207_462 ..).trans ((CT_207_470 ..).trans ((CT_207_478 ..).trans ((CT_207_486 ..).trans ((CT_207_494 ..).trans ((CT_207_502 ..).trans ((CT_207_510 ..).trans ((CT_207_518 ..).trans ((CT_207_526 ..).trans ((CT_207_534 ..).trans ((CT_207_542 ..).trans ((CT_207_550 ..).trans ((CT_207_559 ..).trans ((CT_207_568 ..).trans ((CT_207_577 ..).trans ((CT_207_586 ..).trans ((CT_207_595 ..).trans ((CT_207_603 ..).trans ((CT_207_612 ..).trans ((CT_207_621 ..).trans ((CT_207_629 ..).trans ((CT_207_637 ..).trans ((CT_207_645 ..).trans ((CT_207_653 ..).trans ((CT_207_661 ..).trans ((CT_207_669 ..).trans ((CT_207_677 ..).trans (CT_207_685 ..)))))))))))))))))))))))))))))))))))))))))))))))))))))))))))))))))))))))))))))))))))
end CT0

