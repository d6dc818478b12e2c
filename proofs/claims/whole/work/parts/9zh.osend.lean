/-! send: both answer alike -/
theorem mul_b {x y : Int} {P : Nat} (hx : 1 ≤ x ∧ x ≤ (P : Int)) (hP : P ≤ 12) (hy : 0 ≤ y ∧ y ≤ 100) : w32 (Int.tdiv (w32 (x * y)) 100) = Int.tdiv (x * y) 100 ∧ 0 ≤ Int.tdiv (x * y) 100 ∧ Int.tdiv (x * y) 100 ≤ x := by
  have h1 : 0 ≤ x * y := Int.mul_nonneg (by omega) hy.1
  have h2 : x * y ≤ x * 100 := Int.mul_le_mul_of_nonneg_left hy.2 (by omega)
  generalize x * y = m at h1 h2 ⊢
  rw [w32_of (x := m) (by omega) (by omega), Int.tdiv_eq_ediv_of_nonneg h1, w32_of (by omega) (by omega)]
  exact ⟨rfl, by omega, by omega⟩
theorem SNa_s {I : Nat → Nat → Int} {s : SND} {J : Nat → Nat → Int} (h : SNa I s J) : FZs I J := fun a j q => h.1 a j (by omega) (by omega)
theorem SNb_s {I : Nat → Nat → Int} {P : Nat} {s : SND} {J : Nat → Nat → Int} (h : SNb I P s J) : FZs I J := fun a j q => h.1 a j (by omega) (by omega) (by omega) (by omega) (by omega)
section SE0
variable {I : Nat → Nat → Int} {sp rt : Nat} {tt : Nat → Nat} {z : Zs}
/-- the class's send -/
theorem S_185 {c L : Nat} (hV : TV I tt z c L) (h95 : I 9 5 = (L : Int)) (hL : L < 4096) (hh : InvS I ∧ GN0 I ∧ GK I) (hx : GX I sp tt z.1) {P n : Nat} {x2 x3 : Int} (hP : I 2 6 = (P : Int)) (hn : 1 ≤ n ∧ n ≤ P) (h2 : 0 ≤ x2 ∧ x2 ≤ 100) (h3 : 0 ≤ x3 ∧ x3 ≤ 134455) {s : SND} (h0 : s.2.1 = 0) (hg : ∀ k, s.1 k = false) (hl : ∀ k, I 76 k = s.2.2.1 k) (hs : SOK P (I 76) s) : ∃ K1 K2, Call PG 300 185 [(2, 0), (0, (n : Int)), (0, x2), (0, x3)] (I, RF sp rt tt z.1, z) = some (some (0, ((drw P (I 72 2) (Int.tdiv ((n : Int) * x2) 100) 60 x3 s).2.1 : Int)), (K2, RF sp rt tt z.1, z)) ∧ (FZw I K1 ∧ GK K1) ∧ SNa K1 (fil P (I 72 2) (fun k => wth I c L (k : Int)) (n - (drw P (I 72 2) (Int.tdiv ((n : Int) * x2) 100) 60 x3 s).2.1) (drw P (I 72 2) (Int.tdiv ((n : Int) * x2) 100) 60 x3 s)) K2 := by
  have p1 := hh.1.2.1.1
  have g1 := hh.1.2.2.2.2.1.2.1
  obtain ⟨m1, m2, m3⟩ := mul_b (x := (n : Int)) (y := x2) (P := P) ⟨by omega, by omega⟩ (by omega) h2
  obtain ⟨K1, e1, zK, gK, wK⟩ := L_185 (sp := sp) (rt := rt) hh hx hV h95 hL hP (x1 := (n : Int)) (x2 := x2) (x3 := x3) P 0 I (Nat.zero_add P) FZw_r hh.2.2 (fun k hk => absurd hk (Nat.not_lt_zero k))
  obtain ⟨K2, e2, hK2⟩ := S_186 (d := 296) (I := K1) (sp := sp) (rt := rt) (tt := tt) (z := z) (P := P) (n := n) (M := I 72 2) (T := Int.tdiv ((n : Int) * x2) 100) (x := x3) (w := fun k => wth I c L (k : Int)) (l := I 76) ⟨by omega, by omega⟩ hn.2 ⟨m2, m3⟩ g1.2.1 (zK 72 2 (by decide)) h3 wK (s := s) h0 hg (fun k _ => (zK 76 k (by omega)).trans (hl k)) hs
  refine ⟨K1, K2, ?_, ⟨zK, gK⟩, hK2⟩
  refine (K_185 ..).trans ((T_185_0 ..).trans (bd_t S_13 ?_))
  refine (T_185_12 ..).trans (ci_bf (by omega) (bd_t S_13 ?_))
  refine (T_185_22 ..).trans (ci_bf h2 (bd_t S_13 ?_))
  refine (T_185_33 ..).trans (ci_bf h3 (e1.trans ((T_185_41 ..).trans ?_)))
  rw [zK 2 6 (by decide), hP, m1]
  exact ci_f (by omega) (bd_t e2 (T_185_97 ..))
/-- the reference's send, where all but looks holds -/
theorem S_330 {c L : Nat} (hV : TV I tt z c L) (h95 : I 9 5 = (L : Int)) (hh : InvW I ∧ GN0 I ∧ GK I) (hx : GX I sp tt z.1) {P n : Nat} {M x2 x3 : Int} (hP : I 2 6 = (P : Int)) (hM : 1 ≤ M) (eM : I 82 19 = M) (hn : 1 ≤ n ∧ n ≤ P) (h2 : 0 ≤ x2 ∧ x2 ≤ 100) (h3 : 0 ≤ x3 ∧ x3 ≤ 134455) {s : SND} {l : Nat → Int} (h0 : s.2.1 = 0) (hg : ∀ k, s.1 k = false) (hl : ∀ k, k < P → I 90 k = s.2.2.1 k) (hs : SOK P l s) : ∃ K1 K2, Call PG 300 330 [(2, 82), (0, (n : Int)), (0, x2), (0, x3)] (I, RF sp rt tt z.1, z) = some (some (0, ((drw P M (Int.tdiv ((n : Int) * x2) 100) 60 x3 s).2.1 : Int)), (K2, RF sp rt tt z.1, z)) ∧ (FZw I K1 ∧ GK K1) ∧ SNb K1 P (fil P M (fun k => wth I c L (k : Int)) (n - (drw P M (Int.tdiv ((n : Int) * x2) 100) 60 x3 s).2.1) (drw P M (Int.tdiv ((n : Int) * x2) 100) 60 x3 s)) K2 := by
  have p1 := hh.1.2.1.1
  obtain ⟨m1, m2, m3⟩ := mul_b (x := (n : Int)) (y := x2) (P := P) ⟨by omega, by omega⟩ (by omega) h2
  obtain ⟨K1, e1, zK, gK, wK⟩ := L_330 (sp := sp) (rt := rt) hh hx hV h95 hP (x1 := (n : Int)) (x2 := x2) (x3 := x3) P 0 I (Nat.zero_add P) FZw_r hh.2.2 (fun k hk => absurd hk (Nat.not_lt_zero k))
  have k3 : K1 82 3 = (P : Int) := (zK 82 3 (by decide)).trans (p1.1.trans hP)
  have kM : K1 82 19 = M := (zK 82 19 (by decide)).trans eM
  have hJ : SNb K1 P s (up2 K1 82 17 0) := by
    refine ⟨fun a j q1 _ _ _ _ => ?_, ?_, fun k hk => ?_, fun k hk => ?_, fun k hk => absurd hk (by omega)⟩
    · rw [up2_def, if_neg q1]
    · rw [h0]; exact up2_eq
    · rw [up2_def, if_neg (by omega), (wK k hk).2, hg k]
      rfl
    · rw [up2_def, if_neg (by omega)]
      exact (zK 90 k (by omega)).trans (hl k hk)
  obtain ⟨K2, x', e2, hK2⟩ := L_98 (d := 298) (I := K1) (sp := sp) (rt := rt) (tt := tt) (z := z) (P := P) (M := M) (T := Int.tdiv ((n : Int) * x2) 100) ⟨by omega, by omega⟩ (by omega) hM kM k3 (x1 := (n : Int)) (x2 := x2) (x3 := x3) 60 0 x3 s _ (by omega) h3 hJ
  obtain ⟨o1, o2⟩ := drw_ok (M := M) (T := Int.tdiv ((n : Int) * x2) 100) (l := l) (P := P) (by omega) 60 x3 s h3.1 (by omega) hs
  obtain ⟨K3, e3, hK3⟩ := L_170 (d := 298) (I := K1) (sp := sp) (rt := rt) (tt := tt) (z := z) (P := P) (n := n) (M := M) (w := fun k => wth I c L (k : Int)) (l := l) (by omega) hn.2 hM kM k3 (fun k hk => (wK k hk).1) (x2 := x2) (x3 := x3) (x4 := Int.tdiv ((n : Int) * x2) 100) (x5 := x') (x6 := ((drw P M (Int.tdiv ((n : Int) * x2) 100) 60 x3 s).2.1 : Int)) (n - (drw P M (Int.tdiv ((n : Int) * x2) 100) 60 x3 s).2.1) _ K2 (9, 0) (9, 0) dl9 dl9 (by omega) o1 hK2
  refine ⟨K1, K3, ?_, ⟨zK, gK⟩, hK3⟩
  refine (K_330 ..).trans ((T_330_0 ..).trans (bd_t S_209 ?_))
  refine (T_330_11 ..).trans (ci_bf (by have := p1.1; omega) (bd_t S_209 ?_))
  refine (T_330_23 ..).trans (ci_bf h2 (bd_t S_209 ?_))
  refine (T_330_35 ..).trans (ci_bf h3 (e1.trans ((T_330_43 ..).trans ?_)))
  rw [k3, m1]
  exact ci_f (by omega) (e2.trans e3)
theorem o_send (x1 x2 x3 : Int) (hh : InvS I ∧ GN0 I ∧ GK I) (hx : GX I sp tt z.1) : OpL GX 0 185 330 [(0, x1), (0, x2), (0, x3)] I sp rt tt z := by
  obtain ⟨c, L, hV, h95, hL⟩ := GX_TV hx
  have p1 := hh.1.2.1.1
  obtain ⟨g1, g2, g3, g4, g5⟩ := hh.1.2.2.2.2.1
  by_cases c1 : 1 ≤ x1 ∧ x1 ≤ I 2 6
  · by_cases c2 : 0 ≤ x2 ∧ x2 ≤ 100
    · by_cases c3 : 0 ≤ x3 ∧ x3 ≤ 134455
      · obtain ⟨P, hP⟩ := Int.eq_ofNat_of_zero_le p1.2.1
        obtain ⟨n, rfl⟩ := Int.eq_ofNat_of_zero_le (show 0 ≤ x1 by omega)
        have hP12 : P ≤ 12 := by omega
        have hn : 1 ≤ n ∧ n ≤ P := ⟨by omega, by omega⟩
        have hs : SOK P (I 76) ((fun _ => false, 0, I 76, fun _ => 0, fun _ => 0) : SND) := by
          refine ⟨?_, fun _ _ => rfl⟩
          have := bc_z (f := fun _ => false) (m := 0) P (Nat.zero_le P) (fun _ _ _ => by decide)
          exact this.symm
        obtain ⟨K1, K2, e1, ⟨z1, k1⟩, s1⟩ := S_185 (sp := sp) (rt := rt) hV h95 hL hh hx hP hn c2 c3 (s := (fun _ => false, 0, I 76, fun _ => 0, fun _ => 0)) rfl (fun _ => rfl) (fun _ => rfl) hs
        have z2 : FZs I K2 := FZs_t (FZs_w z1) (SNa_s s1)
        have k2 : GK K2 := GK_Z (fun a j q => s1.1 a j (by omega) (by omega)) k1
        obtain ⟨ok1, ok2⟩ := FZs_ok (IW hh) hx z2 k2
        obtain ⟨c', L', hV', h95', hL'⟩ := GX_TV ok2
        have ec : c' = c := by
          have a := hV'.2.1.1
          have b := hV.2.1.1
          rw [z2 9 1 (by decide)] at a
          omega
        have eL : L' = L := by
          rw [z2 9 5 (by decide)] at h95'
          omega
        subst ec
        subst eL
        have hP2 : K2 2 6 = (P : Int) := (z2 2 6 (by decide)).trans hP
        obtain ⟨K3, K4, e2, ⟨z3, k3⟩, s2⟩ := S_330 (sp := sp) (rt := rt) hV' h95' ok1 ok2 hP2 (M := I 72 2) g2.2.1 ((z2 82 19 (by decide)).trans g2.1) hn c2 c3 (s := (fun _ => false, 0, I 76, fun _ => 0, fun _ => 0)) (l := I 76) rfl (fun _ => rfl) (fun k hk => by
          rw [s1.1 90 k (by omega) (by omega), z1 90 k (by omega)]
          exact g4 k (by omega)) hs
        have ew : (fun (k : Nat) => wth K2 c' L' (k : Int)) = fun (k : Nat) => wth I c' L' (k : Int) := funext (fun k => wth_w z2)
        rw [ew] at s2
        obtain ⟨m1, m2, m3⟩ := mul_b (x := (n : Int)) (y := x2) (P := P) ⟨by omega, by omega⟩ (by omega) c2
        obtain ⟨o1, o2⟩ := drw_ok (M := I 72 2) (T := Int.tdiv ((n : Int) * x2) 100) (l := I 76) (P := P) (by omega) 60 x3 (fun _ => false, 0, I 76, fun _ => 0, fun _ => 0) c3.1 (by show ((0 : Nat) : Int) ≤ _; omega) hs
        have o3 := fil_ok (M := I 72 2) (w := fun (k : Nat) => wth I c' L' (k : Int)) (l := I 76) hn.2 (n - (drw P (I 72 2) (Int.tdiv ((n : Int) * x2) 100) 60 x3 (fun _ => false, 0, I 76, fun _ => 0, fun _ => 0)).2.1) _ (by omega) o1
        generalize fil P (I 72 2) (fun (k : Nat) => wth I c' L' (k : Int)) (n - (drw P (I 72 2) (Int.tdiv ((n : Int) * x2) 100) 60 x3 (fun _ => false, 0, I 76, fun _ => 0, fun _ => 0)).2.1) (drw P (I 72 2) (Int.tdiv ((n : Int) * x2) 100) 60 x3 (fun _ => false, 0, I 76, fun _ => 0, fun _ => 0)) = s at s1 s2 o3
        have k4 : GK K4 := GK_Z (fun a j q => s2.1 a j (by omega) (by omega) (by omega) (by omega) (by omega)) k3
        have z4 : FZs I K4 := FZs_t z2 (FZs_t (FZs_w z3) (SNb_s s2))
        obtain ⟨f1, f2⟩ := FZs_ok (IW hh) hx z4 k4
        have hsn : s.2.1 ≤ P := by rw [o3.1]; exact bc_le P
        have a72 : K4 72 0 = (s.2.1 : Int) := (s2.1 72 0 (by omega) (by omega) (by omega) (by omega) (by omega)).trans ((z3 72 0 (by decide)).trans s1.2.1)
        have r72 : ∀ a j, 74 ≤ a → a ≤ 76 → K4 a j = K2 a j := fun a j h1 h2 => (s2.1 a j (by omega) (by omega) (by omega) (by omega) (by omega)).trans (z3 a j (by omega))
        have m72 : K4 72 2 = I 72 2 := z4 72 2 (by decide)
        have hP4 : K4 2 6 = (P : Int) := (z4 2 6 (by decide)).trans hP
        have hGL : GL K4 := by
          refine ⟨⟨s2.2.1.trans a72.symm, by omega, by omega⟩, ⟨?_, by omega, by omega⟩, fun j hj => ?_, fun p hp => ?_, fun p h1 h2 => ?_⟩
          · rw [m72, z4 82 19 (by decide)]
            exact g2.1
          · have w1 := s1.2.2.2.2 j (by omega)
            have w2 := s2.2.2.2.2 j (by omega)
            rw [r72 74 j (by omega) (by omega), r72 75 j (by omega) (by omega), w1.1, w1.2, w2.1, w2.2]
            exact ⟨rfl, rfl⟩
          · rw [r72 76 p (by omega) (by omega), s1.2.2.2.1 p (by omega), s2.2.2.2.1 p (by omega)]
          · rw [r72 76 p (by omega) (by omega), s1.2.2.2.1 p h2, o3.2 p (by omega)]
            exact g5 p (by omega) h2
        exact ⟨_, K2, K4, e1, e2, ⟨⟨f1.1.1, f1.1.2.1, f1.1.2.2.1, f1.1.2.2.2.1, hGL, f1.1.2.2.2.2.2⟩, f1.2⟩, f2⟩
      · refine ⟨-1, I, I, ?_, ?_, hh, hx⟩
        · refine (K_185 ..).trans ((T_185_0 ..).trans (bd_t S_13 ?_))
          refine (T_185_12 ..).trans (ci_bf c1 (bd_t S_13 ?_))
          refine (T_185_22 ..).trans (ci_bf c2 (bd_t S_13 ?_))
          exact (T_185_33 ..).trans (ci_bt c3 rfl)
        · refine (K_330 ..).trans ((T_330_0 ..).trans (bd_t S_209 ?_))
          refine (T_330_11 ..).trans (ci_bf (by have := p1.1; omega) (bd_t S_209 ?_))
          refine (T_330_23 ..).trans (ci_bf c2 (bd_t S_209 ?_))
          exact (T_330_35 ..).trans (ci_bt c3 rfl)
    · refine ⟨-1, I, I, ?_, ?_, hh, hx⟩
      · refine (K_185 ..).trans ((T_185_0 ..).trans (bd_t S_13 ?_))
        refine (T_185_12 ..).trans (ci_bf c1 (bd_t S_13 ?_))
        exact (T_185_22 ..).trans (ci_bt c2 rfl)
      · refine (K_330 ..).trans ((T_330_0 ..).trans (bd_t S_209 ?_))
        refine (T_330_11 ..).trans (ci_bf (by have := p1.1; omega) (bd_t S_209 ?_))
        exact (T_330_23 ..).trans (ci_bt c2 rfl)
  · refine ⟨-1, I, I, ?_, ?_, hh, hx⟩
    · refine (K_185 ..).trans ((T_185_0 ..).trans (bd_t S_13 ?_))
      exact (T_185_12 ..).trans (ci_bt c1 rfl)
    · refine (K_330 ..).trans ((T_330_0 ..).trans (bd_t S_209 ?_))
      exact (T_330_11 ..).trans (ci_bt (by have := p1.1; omega) rfl)
end SE0

