/-! the constructors -/
def up3 : List (Nat × Nat × Nat) → (Nat → Nat → Int) → (Nat → Nat → Int)
  | [], f => f
  | t :: l, f => up2 (up3 l f) t.1 t.2.1 ((t.2.2 : Nat) : Int)
theorem up3_app {f : Nat → Nat → Int} : ∀ {l l' : List (Nat × Nat × Nat)}, up3 l (up3 l' f) = up3 (l ++ l') f
  | [], _ => rfl
  | t :: l, l' => by
    show up2 (up3 l (up3 l' f)) _ _ _ = up2 (up3 (l ++ l') f) _ _ _
    rw [up3_app]
section CT0
variable {d : Nat} {I R : Nat → Nat → Int} {zz : Nat × (Nat → Int)} {N : Nat}
theorem G344_0 (C : Cal) (y : Zt) (x0 : Nat) (x1 : Int) : Run PG C 344 0 [(2, ((x0 : Nat) : Int)), (0, x1), (9, 0), (9, 0)] [] (I, y) (0, 0) = (if 20 ≤ (LAY x0).1 ∧ (LAY x0).1 ≤ 24 then Run PG C 344 5 [(2, ((x0 : Nat) : Int)), (0, x1), (0, 0), (0, ((LAY x0).2 : Int))] [] (I, y) (0, 0) else none) := (rt_eq CD_344 [5] 7 0 _ _ _ _).trans (Eq.refl _)
theorem G344_5 (C : Cal) (J : Nat → Nat → Int) (y : Zt) (x0 : Nat) (x1 : Int) (x2 : Int) (x3 : Int) : Run PG C 344 5 [(2, ((x0 : Nat) : Int)), (0, x1), (0, x2), (0, x3)] [] (J, y) (0, 0) = (ci (x2 < x3) (if (LAY x0).1 = 20 then (ci (0 ≤ x2 ∧ x2 < ((LAY x0).2 : Int)) (Run PG C 344 5 [(2, ((x0 : Nat) : Int)), (0, x1), (0, w32 (x2 + 1)), (0, x3)] [] (up2 J x0 x2.toNat x1, y) (0, 0)) none) else none) (some (none, (J, y)))) := (rt_eq CD_344 [5] 11 5 _ _ _ _).trans (Eq.refl _)
theorem G_344 {c n : Nat} {v : Int} {y : Zt} (hl : LAY c = (20, n)) (hn : n ≤ 5000) : Call PG (d + 1) 344 [(2, ((c : Nat) : Int)), (0, v)] (I, y) = some (none, (pc I c (fl (I c) n v), y)) := by
  have l1 : (LAY c).1 = 20 := by rw [hl]
  have l2 : ((LAY c).2 : Int) = n := by rw [hl]
  refine (K_344 ..).trans ?_
  refine (G344_0 ..).trans ?_
  refine ite_t (by omega) ?_
  rw [l2]
  have h := loop_p (fun (i : Nat) (f : Nat → Int) => ud f i v) (fun (i : Nat) (f : Nat → Int) => Run PG (Call PG d) 344 5 [(2, ((c : Nat) : Int)), (0, v), (0, (i : Int)), (0, (n : Int))] [] (pc I c f, y) (0, 0) = some (none, (pc I c (fl (I c) n v), y))) n (I c) ?_ ?_
  · rw [pc_self] at h; exact h
  · intro i f hi hf ih
    refine (G344_5 ..).trans ?_
    refine ci_t (by omega) ?_
    refine ite_t l1 ?_
    refine ci_t (by omega) ?_
    rw [w32_of (by omega) (by omega), up2_pc]
    exact ih
  · have e : ∀ i, itr (fun (i : Nat) (f : Nat → Int) => ud f i v) i (I c) = fl (I c) i v := by
      intro i
      induction i with
      | zero => exact fl_0.symm
      | succ i ih => show ud (itr _ i (I c)) i v = _; rw [ih, fl_s]
    rw [e]
    refine (G344_5 ..).trans ?_
    exact ci_f (by omega) rfl

theorem CT_9_0 (C : Cal) : Run PG C 9 0 [(2, 68)] [] (I, R, 69, zz) (0, 0) = Run PG C 9 12 [(2, 68)] [] (I, up3 [(68, 1, 70)] R, 70, zz) (1, 60) := (rt_eq CD_9 [] 6 0 _ _ _ _).trans (Eq.refl _)
theorem CT_9_12 (C : Cal) : Run PG C 9 12 [(2, 68)] [] (I, R, 70, zz) (1, 60) = Run PG C 9 21 [(2, 68)] [] (I, up3 [(68, 2, 71)] R, 71, zz) (2, 2460) := (rt_eq CD_9 [] 4 12 _ _ _ _).trans (Eq.refl _)
theorem CT_9_21 (C : Cal) : Run PG C 9 21 [(2, 68)] [] (I, R, 71, zz) (2, 2460) = Run PG C 9 29 [(2, 68)] [] (I, up3 [(68, 3, 72)] R, 72, zz) (3, 2520) := (rt_eq CD_9 [] 4 21 _ _ _ _).trans (Eq.refl _)
set_option maxRecDepth 20000 in
theorem CT_9_29 (C : Cal) : Run PG C 9 29 [(2, 68)] [] (I, up3 [(68, 3, 72), (68, 2, 71), (68, 1, 70)] R, 72, zz) (3, 2520) = bd (C 344 [(2, 70), (0, -1)] (I, up3 [(68, 3, 72), (68, 2, 71), (68, 1, 70)] R, 72, zz)) (fun v h => Run PG C 9 37 [(2, 68)] (v.toList ++ []) h (3, 2520)) := (rt_eq CD_9 [] 4 29 _ _ _ _).trans (Eq.refl _)
theorem CT_9_37 (C : Cal) : Run PG C 9 37 [(2, 68)] [] (I, R, 72, zz) (3, 2520) = some (none, (I, up3 [] R, 72, zz)) := (rt_eq CD_9 [] 1 37 _ _ _ _).trans (Eq.refl _)
theorem N_9 (d : Nat) (I R : Nat → Nat → Int) (zz : Nat × (Nat → Int)) : Call PG (d + 2) 9 [(2, 68)] (I, R, 69, zz) = some (none, ((pc I 70 (fl (I 70) 2400 (-1))), up3 [(68, 3, 72), (68, 2, 71), (68, 1, 70)] R, 72, zz)) := (show Call PG (d + 2) 9 [(2, 68)] (I, R, 69, zz) = Run PG (Call PG (d + 1)) 9 0 [(2, 68)] [] (I, R, 69, zz) (0, 0) from rfl).trans ((CT_9_0 ..).trans ((CT_9_12 ..).trans ((CT_9_21 ..).trans ((CT_9_29 ..).trans (bd_t (G_344 (c := 70) (n := 2400) rfl (by decide)) (CT_9_37 ..))))))
theorem CT_3_0 (C : Cal) : Run PG C 3 0 [(2, 12)] [] (I, R, 13, zz) (0, 0) = Run PG C 3 13 [(2, 12)] [] (I, up3 [(12, 4, 14)] R, 14, zz) (1, 160) := (rt_eq CD_3 [] 6 0 _ _ _ _).trans (Eq.refl _)
theorem CT_3_13 (C : Cal) : Run PG C 3 13 [(2, 12)] [] (I, R, 14, zz) (1, 160) = Run PG C 3 21 [(2, 12)] [] (I, up3 [(12, 6, 15)] R, 15, zz) (2, 172) := (rt_eq CD_3 [] 4 13 _ _ _ _).trans (Eq.refl _)
theorem CT_3_21 (C : Cal) : Run PG C 3 21 [(2, 12)] [] (I, R, 15, zz) (2, 172) = Run PG C 3 29 [(2, 12)] [] (I, up3 [(12, 7, 16)] R, 16, zz) (3, 184) := (rt_eq CD_3 [] 4 21 _ _ _ _).trans (Eq.refl _)
theorem CT_3_29 (C : Cal) : Run PG C 3 29 [(2, 12)] [] (I, R, 16, zz) (3, 184) = Run PG C 3 37 [(2, 12)] [] (I, up3 [(12, 8, 17)] R, 17, zz) (4, 196) := (rt_eq CD_3 [] 4 29 _ _ _ _).trans (Eq.refl _)
theorem CT_3_37 (C : Cal) : Run PG C 3 37 [(2, 12)] [] (I, R, 17, zz) (4, 196) = Run PG C 3 45 [(2, 12)] [] (I, up3 [(12, 9, 18)] R, 18, zz) (5, 208) := (rt_eq CD_3 [] 4 37 _ _ _ _).trans (Eq.refl _)
theorem CT_3_45 (C : Cal) : Run PG C 3 45 [(2, 12)] [] (I, R, 18, zz) (5, 208) = Run PG C 3 53 [(2, 12)] [] (I, up3 [(12, 10, 19)] R, 19, zz) (6, 220) := (rt_eq CD_3 [] 4 45 _ _ _ _).trans (Eq.refl _)
theorem CT_3_53 (C : Cal) : Run PG C 3 53 [(2, 12)] [] (I, R, 19, zz) (6, 220) = Run PG C 3 61 [(2, 12)] [] (I, up3 [(12, 11, 20)] R, 20, zz) (7, 232) := (rt_eq CD_3 [] 4 53 _ _ _ _).trans (Eq.refl _)
theorem CT_3_61 (C : Cal) : Run PG C 3 61 [(2, 12)] [] (I, R, 20, zz) (7, 232) = Run PG C 3 69 [(2, 12)] [] (I, up3 [(12, 12, 21)] R, 21, zz) (8, 244) := (rt_eq CD_3 [] 4 61 _ _ _ _).trans (Eq.refl _)
theorem CT_3_69 (C : Cal) : Run PG C 3 69 [(2, 12)] [] (I, R, 21, zz) (8, 244) = Run PG C 3 78 [(2, 12)] [] (I, up3 [(12, 14, 22)] R, 22, zz) (9, 404) := (rt_eq CD_3 [] 4 69 _ _ _ _).trans (Eq.refl _)
theorem CT_3_78 (C : Cal) : Run PG C 3 78 [(2, 12)] [] (I, R, 22, zz) (9, 404) = some (none, (I, up3 [] R, 22, zz)) := (rt_eq CD_3 [] 1 78 _ _ _ _).trans (Eq.refl _)
theorem N_3 (d : Nat) (I R : Nat → Nat → Int) (zz : Nat × (Nat → Int)) : Call PG (d + 1) 3 [(2, 12)] (I, R, 13, zz) = some (none, (I, up3 [(12, 14, 22), (12, 12, 21), (12, 11, 20), (12, 10, 19), (12, 9, 18), (12, 8, 17), (12, 7, 16), (12, 6, 15), (12, 4, 14)] R, 22, zz)) := (show Call PG (d + 1) 3 [(2, 12)] (I, R, 13, zz) = Run PG (Call PG (d + 0)) 3 0 [(2, 12)] [] (I, R, 13, zz) (0, 0) from rfl).trans ((CT_3_0 ..).trans ((CT_3_13 ..).trans ((CT_3_21 ..).trans ((CT_3_29 ..).trans ((CT_3_37 ..).trans ((CT_3_45 ..).trans ((CT_3_53 ..).trans ((CT_3_61 ..).trans ((CT_3_69 ..).trans (CT_3_78 ..))))))))))
end CT0

