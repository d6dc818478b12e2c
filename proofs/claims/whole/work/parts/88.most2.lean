/-! the call: most -/
section MP
variable {d : Nat} {I : Nat → Nat → Int} {sp rt : Nat} {tt : Nat → Nat} {z : Zs}
theorem ab_sym {x y : Int} : ab (x - y) = ab (y - x) := by unfold ab; split <;> split <;> omega
theorem clp_sym {n i j : Nat} (hv : NV (I 119) (I 120) (I 25 1).toNat (I 25 0).toNat) (hb : ∀ j : Nat, j < n → (0 ≤ I 79 j ∧ I 79 j < I 25 0)) (hi : i < n) (hj : j < n) (h : clp I i j) : clp I j i := by
  have bi := hb i hi
  have bj := hb j hj
  have hA : 0 ≤ I 79 i ∧ I 79 i < (I 25 0).toNat := by omega
  have hB : 0 ≤ I 79 j ∧ I 79 j < (I 25 0).toNat := by omega
  have s1 := fun h => bfs_sym (ok := okT) (f := fun _ => -1) (g := fun _ => 0) (f' := fun _ => -1) (g' := fun _ => 0) hv (fun _ _ => rfl) (fun _ _ => rfl) hA hB h
  have s2 := fun h => bfs_sym (ok := okT) (f := fun _ => -1) (g := fun _ => 0) (f' := fun _ => -1) (g' := fun _ => 0) hv (fun _ _ => rfl) (fun _ _ => rfl) hB hA h
  have r1 := st_in (A := I 119) (B := I 120) (ok := okT) (f := fun _ => -1) (g := fun _ => 0) hv (fun _ _ => rfl) hA (b := (I 79 j).toNat) (by omega)
  have r2 := st_in (A := I 119) (B := I 120) (ok := okT) (f := fun _ => -1) (g := fun _ => 0) hv (fun _ _ => rfl) hB (b := (I 79 i).toNat) (by omega)
  have e : stw I (I 79 j) (I 79 i).toNat = stw I (I 79 i) (I 79 j).toNat := by
    unfold stw
    generalize (bfs (I 119) (I 120) okT (I 25 1).toNat (I 25 0).toNat (fun _ => -1) (fun _ => 0) (I 79 i)).1 (I 79 j).toNat = x at *
    generalize (bfs (I 119) (I 120) okT (I 25 1).toNat (I 25 0).toNat (fun _ => -1) (fun _ => 0) (I 79 j)).1 (I 79 i).toNat = y at *
    by_cases c : 0 ≤ x
    · have := s1 c
      have := s2 this.1
      omega
    · by_cases c2 : 0 ≤ y
      · have := s2 c2
        omega
      · omega
  obtain ⟨h1, h2⟩ := h
  refine ⟨h1.symm, ?_⟩
  rw [e, ab_sym (x := I 80 j)]
  exact h2
theorem GRD_cg {r r' : Nat → Int} {n k C b : Nat} (h : ∀ i, i < n → r i = r' i) : GRD r n k C b = GRD r' n k C b := by
  unfold GRD
  refine itr_congr (fun t b _ => ?_)
  rw [frst_cg (c := bad r ((C + t : Nat) : Int)) (c' := bad r' ((C + t : Nat) : Int)) (fun i _ hi => by unfold bad; rw [h i (by omega)])]
theorem S_339 {n : Nat} {r : Nat → Int} {J : Nat → Nat → Int} (h336 : Call PG (d + 3) 336 [(2, 82)] (I, RF sp rt tt z.1, z) = some (none, (J, RF sp rt tt z.1, z))) (h77 : J 82 18 = n) (hn : n ≤ 16) (hr : ∀ i, i < n → J 162 i = r i) :
    Call PG (d + 4) 339 [(2, 82)] (I, RF sp rt tt z.1, z) = some (some (0, (GRD r n n 0 0 : Int)), (J, RF sp rt tt z.1, z)) := by
  have l2 := p16 hn
  have hpos : 0 < (2 : Nat) ^ n := Nat.two_pow_pos n
  refine (K_339 ..).trans ((T_339_0 ..).trans (bd_t h336 ((T_339_4 ..).trans ?_)))
  obtain ⟨m, hm⟩ : ∃ m, 2 ^ n = 1 + m := ⟨2 ^ n - 1, by omega⟩
  have e : GRD r n n 0 0 = itr (fun (i : Nat) (b : Nat) => if popN b < popN (0 + (1 + i)) ∧ frst (bad r ((0 + (1 + i) : Nat) : Int)) n 0 = -1 then 0 + (1 + i) else b) m 0 := by
    unfold GRD
    rw [hm, itr_add]
    have e1 : itr (fun (t : Nat) (b : Nat) => if popN b < popN (0 + t) ∧ frst (bad r ((0 + t : Nat) : Int)) n 0 = -1 then 0 + t else b) 1 0 = 0 := by
      show (if popN 0 < popN (0 + 0) ∧ frst (bad r ((0 + 0 : Nat) : Int)) n 0 = -1 then 0 + 0 else 0) = 0
      exact if_neg (fun q => absurd q.1 (by decide))
    rw [e1]
  obtain ⟨R, hR⟩ : ∃ R : Nat, R = GRD r n n 0 0 := ⟨_, rfl⟩
  rw [← hR]
  refine loop_p (fun (i : Nat) (b : Nat) => if popN b < popN (0 + (1 + i)) ∧ frst (bad r ((0 + (1 + i) : Nat) : Int)) n 0 = -1 then 0 + (1 + i) else b) (fun (i : Nat) (b : Nat) => Run PG (Call PG (d + 3)) 339 8 [(2, 82), (0, (b : Int)), (0, ((1 + i : Nat) : Int))] [] (J, RF sp rt tt z.1, z) (0, 0) = some (some (0, (R : Int)), (J, RF sp rt tt z.1, z))) m 0 ?_ ?_
  · intro i b hi hb ih
    have hb2 : b < 65536 := by
      rw [hb]
      exact itr_inv (P := fun (x : Nat) => x < 65536) (by decide) (fun t a ht ha => by
        have e1 : 0 + (1 + t) < 65536 := by omega
        show (if _ then 0 + (1 + t) else a) < 65536
        split
        · exact e1
        · exact ha)
    refine (T_339_8 ..).trans ?_
    rw [h77, shl_n (by omega)]
    refine ci_t (by omega) ?_
    refine bd_t (S_340 (x := 1 + i) (by omega)) ((T_339_22 ..).trans ?_)
    refine bd_t (S_340 hb2) ((T_339_26 ..).trans ?_)
    have ew : ∀ _ : Unit, w32 (((1 + i : Nat) : Int) + 1) = ((1 + (i + 1) : Nat) : Int) := fun _ => by rw [w32_of (by omega) (by omega)]; omega
    rw [ew ()]
    have e0 : 0 + (1 + i) = 1 + i := Nat.zero_add _
    rw [e0] at ih
    by_cases c1 : popN (1 + i) ≤ popN b
    · refine ci_t (by omega) ?_
      rw [if_neg (fun q => by omega)] at ih
      exact ih
    · refine ci_f (by omega) ?_
      refine bd_t (S_337 (d := d + 1) (row := r) h77 hn hr) ((T_339_34 ..).trans ?_)
      rw [ew ()]
      by_cases c2 : frst (bad r ((1 + i : Nat) : Int)) n 0 = -1
      · rw [bz_t c2]
        refine ci_f (by decide) ?_
        rw [if_pos ⟨by omega, c2⟩] at ih
        exact ih
      · rw [bz_f c2]
        refine ci_t rfl ?_
        rw [if_neg (fun q => c2 q.2)] at ih
        exact ih
  · refine (T_339_8 ..).trans ?_
    rw [h77, shl_n (by omega), ← e, ← hR]
    exact ci_f (by omega) rfl
theorem o_most (hh : InvS I) (hn : GN0 I) (hk : GK I) : OpN 202 339 [] I sp rt tt z := by
  obtain ⟨n, J1, a1, a2, a3, a4, a5, a6, a7, J2, b1, b2, b3, b4, b5, b6⟩ := WEI (sp := sp) (rt := rt) (tt := tt) (z := z) hh hn hk
  have i1 := hh.2.2.2.2.2.1
  have hv := hn.2.2.2.2.2.1.1.1
  have g1 := hn.1.1
  have l2 := p16 a2
  have hb : ∀ j : Nat, j < n → (0 ≤ I 79 j ∧ I 79 j < I 25 0) := fun j hj => (i1.2.2.2 j (by omega)).1
  have hpos : 0 < (2 : Nat) ^ n := Nat.two_pow_pos n
  refine ⟨(GRD (fun i => clrow I i n) n n 0 0 : Int), J1, J2, ?_, S_339 (d := 296) (r := fun i => clrow I i n) b1 b3 a2 b2, b4, b5, b6⟩
  refine (K_202 ..).trans ((T_202_0 ..).trans (bd_t a3 ((T_202_11 ..).trans ?_)))
  have h204 := S_204 (I := J1) (sp := sp) (rt := rt) (tt := tt) (z := z) (c := clp I) (n := n) (r := fun i => clrow I i n) a2 a4 (fun i _ => clrow_n n a2) (fun i j hi hj h => clp_sym hv hb hi hj h) (fun i hi => clp_self hv (by have := hb i hi; omega)) n (296 - n) 0 0 (2 ^ n - 1) 0 (Nat.le_refl n) (Nat.mul_zero _).symm (by omega) (fun i => by
    rw [Nat.testBit_two_pow_sub_one, decide_eq_true_iff]
    constructor
    · intro h; exact ⟨h, fun j _ q => by rw [Nat.zero_testBit] at q; exact absurd q (by decide)⟩
    · intro h; exact h.1) (fun i j _ _ q => by rw [Nat.zero_testBit] at q; exact absurd q (by decide)) (by decide)
  rw [show n + (296 - n) + 2 = 298 by omega] at h204
  have e1 : w32 (shl32 1 (n : Int) - 1) = ((2 ^ n - 1 : Nat) : Int) := by
    rw [shl_n (by omega), w32_of (by omega) (by omega)]; omega
  have h203 : Call PG 299 203 [(2, 77)] (J1, RF sp rt tt z.1, z) = some (some (0, (GRD (fun i => clrow I i n) n n 0 0 : Int)), (J1, RF sp rt tt z.1, z)) := by
    refine (K_203 ..).trans ((T_203_0 ..).trans ?_)
    rw [a5, e1]
    exact bd_t h204 (T_203_21 ..)
  exact bd_t h203 (T_202_18 ..)
end MP

