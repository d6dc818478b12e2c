/-! small numbers as bits; can a set be? -/
theorem ia_n {x y : Nat} (hx : x < 2147483648) (hy : y < 2147483648) : ia32 (x : Int) (y : Int) = ((x &&& y : Nat) : Int) := by
  show (BitVec.ofInt 32 (x : Int) &&& BitVec.ofInt 32 (y : Int)).toInt = _
  rw [BitVec.ofInt_natCast, BitVec.ofInt_natCast]
  have h : (BitVec.ofNat 32 x &&& BitVec.ofNat 32 y).toNat = x &&& y := by
    rw [BitVec.toNat_and, BitVec.toNat_ofNat, BitVec.toNat_ofNat, Nat.mod_eq_of_lt (by omega), Nat.mod_eq_of_lt (by omega)]
  have h2 : x &&& y ≤ x := Nat.and_le_left
  rw [BitVec.toInt_eq_toNat_of_lt (by omega), h]
theorem io_n {x y : Nat} (hx : x < 2147483648) (hy : y < 2147483648) : io32 (x : Int) (y : Int) = ((x ||| y : Nat) : Int) := by
  show (BitVec.ofInt 32 (x : Int) ||| BitVec.ofInt 32 (y : Int)).toInt = _
  rw [BitVec.ofInt_natCast, BitVec.ofInt_natCast]
  have h : (BitVec.ofNat 32 x ||| BitVec.ofNat 32 y).toNat = x ||| y := by
    rw [BitVec.toNat_or, BitVec.toNat_ofNat, BitVec.toNat_ofNat, Nat.mod_eq_of_lt (by omega), Nat.mod_eq_of_lt (by omega)]
  have h2 : x ||| y < 2 ^ 31 := Nat.or_lt_two_pow (by omega) (by omega)
  rw [BitVec.toInt_eq_toNat_of_lt (by omega), h]
theorem ia_1 (x : Int) : ia32 x 1 = 0 ∨ ia32 x 1 = 1 := by
  have h : ia32 x 1 = (BitVec.ofInt 32 x &&& 1#32).toInt := rfl
  have h2 : (BitVec.ofInt 32 x &&& 1#32).toNat = (BitVec.ofInt 32 x).toNat % 2 := by
    rw [BitVec.toNat_and]; exact Nat.and_one_is_mod _
  rw [h, BitVec.toInt_eq_toNat_of_lt (by omega), h2]
  omega
abbrev bad (row : Nat → Int) (s : Int) (i : Nat) : Prop := ¬ ia32 (shr32 s (i : Int)) 1 = 0 ∧ ¬ ia32 (row i) s = 0
section JU
variable {d : Nat} {I : Nat → Nat → Int} {sp rt : Nat} {tt : Nat → Nat} {z : Zs}
theorem S_201 {n : Nat} {row : Nat → Int} {s : Int} (h77 : I 77 0 = n) (hn : n ≤ 16) (hr : ∀ i, i < n → I 81 i = row i) :
    Call PG (d + 1) 201 [(2, 77), (0, s)] (I, RF sp rt tt z.1, z) = some (some (0, bz (frst (bad row s) n 0 = -1)), (I, RF sp rt tt z.1, z)) := by
  refine (K_201 ..).trans ((T_201_0 ..).trans ?_)
  refine loop_f (bad row s) (fun (j : Nat) (r : Int) => Run PG (Call PG d) 201 2 [(2, 77), (0, s), (0, (j : Int))] [] (I, RF sp rt tt z.1, z) (0, 0) = some (some (0, bz (r = -1)), (I, RF sp rt tt z.1, z))) n ?_ ?_ ?_
  · intro j hj c
    refine (T_201_2 ..).trans ?_
    refine ci_t (by omega) ?_
    refine ci_f c.1 ?_
    refine (T_201_18 ..).trans ?_
    refine ci_t (by omega) ?_
    rw [Int.toNat_natCast, hr j hj]
    exact ci_f c.2 (eqv (bz_f (by omega)).symm)
  · intro j r hj c ih
    refine (T_201_2 ..).trans ?_
    refine ci_t (by omega) ?_
    rw [ws_n (by omega)]
    by_cases c1 : ia32 (shr32 s (j : Int)) 1 = 0
    · exact ci_t c1 ih
    · refine ci_f c1 ?_
      refine (T_201_18 ..).trans ?_
      refine ci_t (by omega) ?_
      rw [Int.toNat_natCast, hr j hj, ws_n (by omega)]
      exact ci_t (Classical.byContradiction fun q => c ⟨c1, q⟩) ih
  · refine (T_201_2 ..).trans ?_
    exact ci_f (by omega) rfl
theorem S_338 {s i : Int} : Call PG (d + 1) 338 [(0, s), (0, i)] (I, RF sp rt tt z.1, z) = some (some (0, bz (¬ ia32 (shr32 s i) 1 = 0)), (I, RF sp rt tt z.1, z)) := by
  refine (K_338 ..).trans ((T_338_0 ..).trans ?_)
  rcases ia_1 (shr32 s i) with q | q
  · exact ci_f (by rw [q]; decide) (eqv (bz_f (fun h => h q)).symm)
  · exact ci_t q (eqv (bz_t (by rw [q]; decide)).symm)
theorem S_337 {n : Nat} {row : Nat → Int} {s : Int} (h77 : I 82 18 = n) (hn : n ≤ 16) (hr : ∀ i, i < n → I 162 i = row i) :
    Call PG (d + 2) 337 [(2, 82), (0, s)] (I, RF sp rt tt z.1, z) = some (some (0, bz (frst (bad row s) n 0 = -1)), (I, RF sp rt tt z.1, z)) := by
  refine (K_337 ..).trans ((T_337_0 ..).trans ?_)
  refine loop_f (bad row s) (fun (j : Nat) (r : Int) => Run PG (Call PG (d + 1)) 337 2 [(2, 82), (0, s), (0, (j : Int))] [] (I, RF sp rt tt z.1, z) (0, 0) = some (some (0, bz (r = -1)), (I, RF sp rt tt z.1, z))) n ?_ ?_ ?_
  · intro j hj c
    refine (T_337_2 ..).trans ?_
    refine ci_t (by omega) ?_
    refine bd_t S_338 ?_
    refine (T_337_15 ..).trans ?_
    rw [bz_t c.1]
    refine ci_f (by decide) ?_
    refine ci_t (by omega) ?_
    rw [Int.toNat_natCast, hr j hj]
    exact ci_f c.2 (eqv (bz_f (by omega)).symm)
  · intro j r hj c ih
    refine (T_337_2 ..).trans ?_
    refine ci_t (by omega) ?_
    refine bd_t S_338 ?_
    refine (T_337_15 ..).trans ?_
    rw [ws_n (by omega)]
    by_cases c1 : ia32 (shr32 s (j : Int)) 1 = 0
    · rw [bz_f (fun q => q c1)]
      exact ci_t rfl ih
    · rw [bz_t c1]
      refine ci_f (by decide) ?_
      refine ci_t (by omega) ?_
      rw [Int.toNat_natCast, hr j hj]
      exact ci_t (Classical.byContradiction fun q => c ⟨c1, q⟩) ih
  · refine (T_337_2 ..).trans ?_
    exact ci_f (by omega) rfl
theorem clrow_eq {J : Nat → Nat → Int} {i n : Nat} (h1 : J 119 = I 119) (h2 : J 120 = I 120) (h3 : J 25 0 = I 25 0) (h4 : J 25 1 = I 25 1) (h5 : J 77 = I 77) (h6 : J 78 = I 78) (h7 : J 79 = I 79) (h8 : J 80 = I 80) : clrow J i n = clrow I i n := by
  unfold clrow clp stw
  rw [h1, h2, h3, h4, h5, h6, h7, h8]
theorem InvS_81 {f : Nat → Int} (h : InvS I) : InvS (pc I 81 f) := h
theorem InvS_162 {f : Nat → Int} (h : InvS I) : InvS (pc I 162 f) := h
theorem GN0_81 {f : Nat → Int} (h : GN0 I) : GN0 (pc I 81 f) := h
theorem GN0_162 {f : Nat → Int} (h : GN0 I) : GN0 (pc I 162 f) := h
theorem GK_81 {f : Nat → Int} (h : GK I) : GK (pc I 81 f) := h
theorem GK_162 {f : Nat → Int} (h : GK I) : GK (pc I 162 f) := h
theorem MX_81 {f : Nat → Int} : mkI MX (pc I 81 f) = mkI MX I := mkI_eq (fun a j hm => pc_ne (fun q => by subst q; revert hm; unfold MX; rw [decide_eq_true_iff]; omega))
theorem MX_162 {f : Nat → Int} : mkI MX (pc I 162 f) = mkI MX I := mkI_eq (fun a j hm => pc_ne (fun q => by subst q; revert hm; unfold MX; rw [decide_eq_true_iff]; omega))
/-- both find the same clashes -/
theorem WEI (hh : InvS I) (hn : GN0 I) (hk : GK I) : ∃ (n : Nat) (J1 : Nat → Nat → Int), I 77 0 = n ∧ n ≤ 16 ∧
    Call PG 299 199 [(2, 77), (2, 25)] (I, RF sp rt tt z.1, z) = some (none, (J1, RF sp rt tt z.1, z)) ∧ (∀ i, i < n → J1 81 i = clrow I i n) ∧ J1 77 0 = n ∧ J1 82 18 = n ∧ I 82 18 = n ∧
    ∃ J2 : Nat → Nat → Int, Call PG 299 336 [(2, 82)] (J1, RF sp rt tt z.1, z) = some (none, (J2, RF sp rt tt z.1, z)) ∧ (∀ i, i < n → J2 162 i = clrow I i n) ∧ J2 82 18 = n ∧ InvS J2 ∧ (GN0 J2 ∧ GK J2) ∧ mkI MX J2 = mkI MX I := by
  have i1 := hh.2.2.2.2.2.1
  obtain ⟨n, hN⟩ := Int.eq_ofNat_of_zero_le i1.1.2.1
  have b := i1.2.2.2
  have i11 := i1.1
  have eN : (I 77 0).toNat = n := by omega
  rw [eN] at b
  have g1 := hn.1
  have hC := hn.2.2.2.2.2.1
  obtain ⟨J1, f, r, F, q⟩ := S_199 (d := 295) (I := I) (sp := sp) (rt := rt) (tt := tt) (z := z) (n := n) ⟨⟨hN, by omega, i1.2.1.2⟩, b, ⟨hN, rfl, rfl, rfl, rfl⟩, g1.1.2⟩ hC
  have hJ : InvS J1 := InvS_m (FRn_I (FRn_c F)) (InvS_81 hh)
  have gJ : GN0 J1 := GN0_m (FRn_N (FRn_c F)) (GN0_81 hn)
  have kJ : GK J1 := GK_c F (GK_81 hk)
  have mJ : mkI MX J1 = mkI MX I := (FRn_X (FRn_c F)).trans MX_81
  have j1 := hJ.2.2.2.2.2.1
  have e77 : J1 77 = I 77 := FRc_f F (by decide) (by decide) (by decide) (by decide) (by decide) (by decide)
  have e78 : J1 78 = I 78 := FRc_f F (by decide) (by decide) (by decide) (by decide) (by decide) (by decide)
  have e79 : J1 79 = I 79 := FRc_f F (by decide) (by decide) (by decide) (by decide) (by decide) (by decide)
  have e80 : J1 80 = I 80 := FRc_f F (by decide) (by decide) (by decide) (by decide) (by decide) (by decide)
  have e119 : J1 119 = I 119 := FRc_f F (by decide) (by decide) (by decide) (by decide) (by decide) (by decide)
  have e120 : J1 120 = I 120 := FRc_f F (by decide) (by decide) (by decide) (by decide) (by decide) (by decide)
  have e82 : J1 82 = I 82 := FRc_f F (by decide) (by decide) (by decide) (by decide) (by decide) (by decide)
  have e250 : J1 25 0 = I 25 0 := F 25 0 (by omega) (by omega) (by omega) (by omega) (by omega) (by omega)
  have e251 : J1 25 1 = I 25 1 := F 25 1 (by omega) (by omega) (by omega) (by omega) (by omega) (by omega)
  have e81 : ∀ j, J1 81 j = f j := fun j => (F 81 j (by omega) (by omega) (by omega) (by omega) (by omega) (by omega)).trans pc_at
  have hN1 : J1 77 0 = n := by rw [e77]; exact hN
  have b1 := j1.2.2.2
  have j11 := j1.1
  have j12 := j1.2.1
  have eN1 : (J1 77 0).toNat = n := by omega
  rw [eN1] at b1
  have g1' := gJ.1
  have hC' := gJ.2.2.2.2.2.1
  obtain ⟨J2, f2, r2, F2, q2⟩ := S_336 (d := 295) (I := J1) (sp := sp) (rt := rt) (tt := tt) (z := z) (n := n) ⟨⟨hN1, by omega, j1.2.1.2⟩, b1, ⟨by omega, by omega, funext j1.2.2.1.1, funext j1.2.2.1.2.1, funext j1.2.2.1.2.2⟩, g1'.1.2⟩ hC'.1.1 ⟨g1'.1.1, g1'.2.1, g1'.2.2⟩
  have e162 : ∀ j, J2 162 j = f2 j := fun j => (F2 162 j (by omega)).trans pc_at
  refine ⟨n, J1, hN, by omega, r, fun i hi => (e81 i).trans (q i hi), hN1, by omega, by omega, J2, r2, fun i hi => ?_, ?_, InvS_m (FRn_I (FRn_m F2)) (InvS_162 hJ), ⟨GN0_m (FRn_N (FRn_m F2)) (GN0_162 gJ), GK_m F2 (GK_162 kJ)⟩, (FRn_X (FRn_m F2)).trans (MX_162.trans mJ)⟩
  · rw [e162, q2 i hi]
    exact clrow_eq e119 e120 e250 e251 e77 e78 e79 e80
  · have := F2 82 18 (by omega)
    rw [this]
    show J1 82 18 = n
    omega
theorem bz_j01 {p : Prop} [Decidable p] : bz p = 0 ∨ bz p = 1 := by unfold bz; split <;> omega
theorem o_judge (s : Int) (hh : InvS I) (hn : GN0 I) (hk : GK I) : OpN 197 335 [(0, s)] I sp rt tt z := by
  obtain ⟨n, J1, a1, a2, a3, a4, a5, a6, a7, J2, b1, b2, b3, b4, b5, b6⟩ := WEI (sp := sp) (rt := rt) (tt := tt) (z := z) hh hn hk
  have h198 : Call PG 299 198 [(2, 77), (0, s)] (I, RF sp rt tt z.1, z) = some (some (0, bz (0 ≤ s ∧ s ≤ w32 (shl32 1 (n : Int) - 1))), (I, RF sp rt tt z.1, z)) := (K_198 ..).trans ((T_198_0 ..).trans (bd_t S_13 ((T_198_13 ..).trans (by rw [a1]; exact if_pos bz_j01))))
  by_cases c : 0 ≤ s ∧ s ≤ w32 (shl32 1 (n : Int) - 1)
  · refine ⟨bz (frst (bad (fun i => clrow I i n) s) n 0 = -1), J1, J2, ?_, ?_, b4, b5, b6⟩
    · refine (K_197 ..).trans ((T_197_0 ..).trans ?_)
      refine bd_t h198 ((T_197_8 ..).trans ?_)
      rw [bz_t c]
      refine ci_f (by decide) (bd_t a3 ((T_197_24 ..).trans ?_))
      refine bd_t (S_201 (d := 298) (row := fun i => clrow I i n) a5 a2 a4) ((T_197_32 ..).trans ?_)
      rcases bz_j01 (p := frst (bad (fun i => clrow I i n) s) n 0 = -1) with q | q
      · rw [q]; exact ci_t rfl rfl
      · rw [q]; exact ci_f (by decide) rfl
    · refine (K_335 ..).trans ((T_335_0 ..).trans ?_)
      rw [a6]
      refine bd_t S_209 ((T_335_15 ..).trans ?_)
      rw [bz_t c]
      refine ci_f (by decide) (bd_t b1 ((T_335_24 ..).trans ?_))
      refine bd_t (S_337 (d := 297) (row := fun i => clrow I i n) b3 a2 b2) ((T_335_29 ..).trans ?_)
      rcases bz_j01 (p := frst (bad (fun i => clrow I i n) s) n 0 = -1) with q | q
      · rw [q]; exact ci_t rfl rfl
      · rw [q]; exact ci_f (by decide) rfl
  · refine ⟨-1, I, I, ?_, ?_, hh, ⟨hn, hk⟩, rfl⟩
    · refine (K_197 ..).trans ((T_197_0 ..).trans ?_)
      refine bd_t h198 ((T_197_8 ..).trans ?_)
      rw [bz_f c]
      exact ci_t rfl rfl
    · refine (K_335 ..).trans ((T_335_0 ..).trans ?_)
      rw [a7]
      refine bd_t S_209 ((T_335_15 ..).trans ?_)
      rw [bz_f c]
      exact ci_t rfl rfl
end JU

