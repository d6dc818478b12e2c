/-! ways, fewest; a door, a fan -/
section N4
variable {d : Nat} {I : Nat → Nat → Int} {sp rt : Nat} {tt : Nat → Nat} {z : Zs}
theorem o_ways (a : Int) (hh : InvS I) (hn : GN0 I) (hk : GK I) : OpN 119 294 [(0, a)] I sp rt tt z := by
  have p1 := hh.2.1.1
  have hn0 := hn
  obtain ⟨⟨g1, g2⟩, g3, g4, g5, g6, g7, g8, g9, g10⟩ := hn
  by_cases c : 0 ≤ a ∧ a < I 25 0
  · obtain ⟨a, rfl⟩ := Int.eq_ofNat_of_zero_le c.1
    have ha : a < (I 25 0).toNat := by omega
    have h6 := g6 a ha
    have h4 := g4 (I 33 a).toNat (by omega)
    have e114 : I 114 a = I 33 a := g3.1 a
    by_cases cb : I 34 (I 33 a).toNat = a
    · refine ⟨-1, I, I, ?_, ?_, hh, ⟨hn0, hk⟩, rfl⟩
      · refine (K_119 ..).trans ((T_119_0 ..).trans (bd_t S_102 ((T_119_8 ..).trans (ci_bf c (bd_t (S_67 (by omega) (by rw [Int.toNat_natCast]; omega)) ((T_119_19 ..).trans (ci_bf ?_ rfl)))))))
        rw [Int.toNat_natCast]; exact cb
      · refine (K_294 ..).trans ((T_294_0 ..).trans (bd_t (S_286 (by omega)) ((T_294_5 ..).trans (ci_bf (by omega) (bd_t (S_262 (by omega) (by rw [Int.toNat_natCast]; omega)) ((T_294_13 ..).trans (ci_bf ?_ rfl)))))))
        rw [Int.toNat_natCast, e114, h4.1]; exact cb
    · have h68 := S_68 (d := 295) (I := I) (sp := sp) (rt := rt) (tt := tt) (z := z) (A := I 119) (B := I 120) (P := (I 25 0).toNat) (m := (I 25 1).toNat) (a := (a : Int)) (t := I 34 (I 33 a).toNat) 150 g7 (by omega) (by omega) (by omega) (by rw [Int.toNat_natCast]; omega) rfl
      obtain ⟨J, j1, j2⟩ := h68
      have hF := FRn_c j2
      have hM := FRn_N hF
      have nJ := GN0_m hM hn0
      obtain ⟨e2, e82, e7, e6, e25, e251⟩ := FRn_all hF
      have j114 := (FRn_f hF (a := 114) (by decide) (by decide)).trans (funext g3.1)
      have j115 := FRn_f hF (a := 115) (by decide) (by decide)
      have j119 := FRn_f hF (a := 119) (by decide) (by decide)
      have j120 := FRn_f hF (a := 120) (by decide) (by decide)
      have h63 := S_263 (d := 296) (I := J) (sp := sp) (rt := rt) (tt := tt) (z := z) (P := (I 25 0).toNat) (m := (I 25 1).toNat) (a := (a : Int)) (t := I 34 (I 33 a).toNat) (by rw [j119, j120]; exact g7.1.1) (by omega) (by omega) (by omega) (by omega) (by rw [j114, Int.toNat_natCast]; omega) (by rw [j114, j115, Int.toNat_natCast]; exact h4.1)
      obtain ⟨K, k1, k2⟩ := h63
      have ev : wy (I 119) (I 120) a (I 34 (I 33 a).toNat) (I 25 1).toNat (I 25 0).toNat 150 (fun _ => 0) = wy (J 119) (J 120) a (I 34 (I 33 a).toNat) (I 25 1).toNat (I 25 0).toNat 151 (fun _ => 0) := by
        rw [j119, j120, wy_min 150 1]
        have hW := (WV_b (A := I 119) (B := I 120) (PP := I 33) (bk := I 34) (m := (I 25 1).toNat) (P := (I 25 0).toNat) (x := a) g7.1.1 g7.1.2.1 ha (by omega)).2
        unfold WV at hW
        show (if wy (I 119) (I 120) a (I 34 (I 33 a).toNat) (I 25 1).toNat (I 25 0).toNat 151 (fun _ => 0) < _ then wy (I 119) (I 120) a (I 34 (I 33 a).toNat) (I 25 1).toNat (I 25 0).toNat 151 (fun _ => 0) else _) = wy (I 119) (I 120) a (I 34 (I 33 a).toNat) (I 25 1).toNat (I 25 0).toNat 151 (fun _ => 0)
        generalize wy (I 119) (I 120) a (I 34 (I 33 a).toNat) (I 25 1).toNat (I 25 0).toNat 151 (fun _ => 0) = W at *
        split
        · rfl
        · omega
      rw [ev] at j1
      refine ⟨wy (J 119) (J 120) a (I 34 (I 33 a).toNat) (I 25 1).toNat (I 25 0).toNat 151 (fun _ => 0), J, K, ?_, ?_, InvS_m (FRn_I (FRn_t hF (FRn_m k2))) hh, ⟨GN0_m (FRn_N (FRn_m k2)) nJ, GK_m k2 (GK_c j2 hk)⟩, FRn_X (FRn_t hF (FRn_m k2))⟩
      · refine (K_119 ..).trans ((T_119_0 ..).trans (bd_t S_102 ((T_119_8 ..).trans (ci_bf c (bd_t (S_67 (by omega) (by rw [Int.toNat_natCast]; omega)) ((T_119_19 ..).trans (ci_bt ?_ (bd_t j1 (T_119_35 ..)))))))))
        rw [Int.toNat_natCast]; exact cb
      · refine (K_294 ..).trans ((T_294_0 ..).trans (bd_t (S_286 (by omega)) ((T_294_5 ..).trans (ci_bf (by omega) (bd_t (S_262 (by omega) (by rw [j114, Int.toNat_natCast]; omega)) ((T_294_13 ..).trans (ci_bt ?_ (bd_t k1 (T_294_21 ..)))))))))
        rw [j114, j115, Int.toNat_natCast, h4.1]; exact cb
  · refine ⟨-1, I, I, ?_, ?_, hh, ⟨hn0, hk⟩, rfl⟩
    · exact (K_119 ..).trans ((T_119_0 ..).trans (bd_t S_102 ((T_119_8 ..).trans (ci_bt c rfl))))
    · exact (K_294 ..).trans ((T_294_0 ..).trans (bd_t (S_286 (by omega)) ((T_294_5 ..).trans (ci_bt (by omega) rfl))))
theorem FWV_cg {A B PP bk bk' : Nat → Int} {m P : Nat} {p : Int} (h : ∀ x, x < P → bk (PP x).toNat = bk' (PP x).toNat) : FWV A B PP bk m P p = FWV A B PP bk' m P p := by
  refine itr_congr (fun x f hx => ?_)
  have e : WV A B PP bk m P x = WV A B PP bk' m P x := by
    unfold WV
    rw [h x hx]
  rw [e, h x hx]
theorem S_66n {p : Int} (hn : GN0 I) (hk : GK I) (hp : 0 ≤ p ∧ p < I 2 6) (hp2 : I 2 6 ≤ 12) : ∃ J, Call PG (d + 5) 66 [(2, 25), (0, p)] (I, RF sp rt tt z.1, z) = some (some (0, FWc I p), (J, RF sp rt tt z.1, z)) ∧ FRn I J ∧ J 44 = I 44 ∧ J 42 = I 42 ∧ GK J := by
  obtain ⟨⟨g1, g2⟩, g3, g4, g5, g6, g7, g8, g9, g10⟩ := hn
  have epp : ((p.toNat : Nat) : Int) = p := by omega
  have hc := hk.1 p.toNat (by omega)
  rw [epp] at hc
  obtain ⟨J, j1, j2⟩ := S_66 (d := d) (I := I) (sp := sp) (rt := rt) (tt := tt) (z := z) (A := I 119) (B := I 120) (P := (I 25 0).toNat) (m := (I 25 1).toNat) (p := p) g7 (by omega) (by omega) (fun x hx => by have := g6 x hx; omega) hc
  have hF : FRn I J := FRn_t FRn_37 (FRn_c j2)
  have hM := FRn_N hF
  have e44 : ∀ j, J 44 j = I 44 j := fun j => by rw [j2 44 j (by decide) (by decide) (by decide) (by decide) (by decide) (by omega), up2_ne (by decide)]
  have e42 : ∀ j, J 42 j = I 42 j := fun j => by rw [j2 42 j (by decide) (by decide) (by decide) (by decide) (by decide) (by omega), up2_ne (by decide)]
  have e37 : ∀ j, J 37 j = if j = p.toNat then FWc I p else I 37 j := fun j => by rw [j2 37 j (by decide) (by decide) (by decide) (by decide) (by decide) (by omega), up2_at]; rfl
  obtain ⟨-, -, -, -, -, e25⟩ := FRn_all hF
  have e33 := FRn_f hF (a := 33) (by decide) (by decide)
  have e119 := FRn_f hF (a := 119) (by decide) (by decide)
  refine ⟨J, j1, hF, funext e44, funext e42, ?_, ?_⟩
  · intro q hq
    rw [e37, FWc_m hM]
    by_cases w : q = p.toNat
    · rw [if_pos w, w, epp]; exact Or.inr rfl
    · rw [if_neg w]; exact hk.1 q hq
  · intro q hq
    rw [e44, e25, e33, e119, LVc_m hM]
    rcases hk.2 q hq with u | ⟨u1, u2⟩
    · exact Or.inl u
    · exact Or.inr ⟨u1, fun r hr e => by rw [e42, ARc_m hM]; exact u2 r hr e⟩
theorem S_261n {p : Int} (hn : GN0 I) (hp : 0 ≤ p ∧ p < I 2 6) (hp2 : I 2 6 ≤ 12) : ∃ J, Call PG (d + 4) 261 [(2, 82), (0, p)] (I, RF sp rt tt z.1, z) = some (some (0, FWc I p), (J, RF sp rt tt z.1, z)) ∧ FRr I J := by
  obtain ⟨⟨g1, g2⟩, g3, g4, g5, g6, g7, g8, g9, g10⟩ := hn
  have e114 : I 114 = I 33 := funext g3.1
  have hN : ∀ x : Nat, x < (I 25 0).toNat → I 115 (I 33 x).toNat = I 34 (I 33 x).toNat := fun x hx => (g4 _ (by have := g6 x hx; omega)).1
  have h := S_261 (d := d) (I := I) (sp := sp) (rt := rt) (tt := tt) (z := z) (P := (I 25 0).toNat) (m := (I 25 1).toNat) (p := p) g7.1.1 (by omega) (by omega) (fun x hx => by
    have := g6 x hx
    rw [e114, hN x hx]
    omega)
  obtain ⟨J, j1, j2⟩ := h
  refine ⟨J, j1.trans (eqv ?_), j2⟩
  rw [e114]
  exact FWV_cg hN
theorem o_fewest (p : Int) (hh : InvS I) (hn : GN0 I) (hk : GK I) : OpN 120 295 [(0, p)] I sp rt tt z := by
  have p1 := hh.2.1.1
  by_cases c : 0 ≤ p ∧ p < I 2 6
  · obtain ⟨J, j1, j2, j3, j4, j5⟩ := S_66n (d := 294) (sp := sp) (rt := rt) (tt := tt) (z := z) hn hk c p1.2.2
    have hM := FRn_N j2
    have nJ := GN0_m hM hn
    obtain ⟨e2, e82, -, -, -, -⟩ := FRn_all j2
    obtain ⟨K, k1, k2⟩ := S_261n (d := 295) (I := J) (sp := sp) (rt := rt) (tt := tt) (z := z) (p := p) nJ (by omega) (by omega)
    rw [FWc_m hM] at k1
    refine ⟨FWc I p, J, K, ?_, ?_, InvS_m (FRn_I (FRn_t j2 (FRn_m k2))) hh, ⟨GN0_m (FRn_N (FRn_m k2)) nJ, GK_m k2 j5⟩, FRn_X (FRn_t j2 (FRn_m k2))⟩
    · exact (K_120 ..).trans ((T_120_0 ..).trans (bd_t S_18 ((T_120_8 ..).trans (ci_bf c (bd_t j1 (T_120_19 ..))))))
    · exact (K_295 ..).trans ((T_295_0 ..).trans (bd_t (S_212 (by omega)) ((T_295_5 ..).trans (ci_bf (by omega) (bd_t k1 (T_295_13 ..))))))
  · refine ⟨-2, I, I, ?_, ?_, hh, ⟨hn, hk⟩, rfl⟩
    · exact (K_120 ..).trans ((T_120_0 ..).trans (bd_t S_18 ((T_120_8 ..).trans (ci_bt c rfl))))
    · exact (K_295 ..).trans ((T_295_0 ..).trans (bd_t (S_212 (by omega)) ((T_295_5 ..).trans (ci_bt (by omega) rfl))))
end N4

