/-! worth: both answer alike -/
def wvv (I : Nat → Nat → Int) (p : Int) (n : Int) : Int := w32 (w32 (I 5 p.toNat + w32 (Int.tdiv (I 4 p.toNat) 10)) + w32 (20 * n))
section WO0
variable {d : Nat} {I : Nat → Nat → Int} {sp rt : Nat} {tt : Nat → Nat} {z : Zs} {c L : Nat}
theorem S_184 (h : TV I tt z c L) (h95 : I 9 5 = (L : Int)) (hL : L < 4096) (hh : InvS I ∧ GN0 I ∧ GK I) (hx : GX I sp tt z.1) {p : Int} (hp : 0 ≤ p ∧ p < I 2 6) {H : Nat → Nat → Int} (hZ : FZ I H) (gH : GK H) : ∃ K, Call PG (d + 8) 184 [(2, 0), (0, p)] (H, RF sp rt tt z.1, z) = some (some (0, wvv I p ((bc (bf I p (Int.tdiv (I 0 0) 1440) (STK I p (Int.tdiv (I 0 0) 1440) c (fun _ _ => false)) L (fct I p)) (12 * c) : Nat) : Int)), (K, RF sp rt tt z.1, z)) ∧ (FZ H K ∧ FZ I K) ∧ GK K := by
  have t0 := hh.1.1.1
  have p1 := hh.1.2.1.1
  have hd := day_b t0.2
  obtain ⟨ok1, ok2⟩ := FZ_ok hh hx hZ gH
  have e26 : H 2 6 = I 2 6 := hZ 2 6 (by decide)
  have ef : fct H p = fct I p := fct_m (mkI_eq (fun a j hm => by
    have hm' := of_decide_eq_true hm
    exact hZ a j (by omega))) (mkI_eq (fun a j hm => by
    have hm' := of_decide_eq_true hm
    exact hZ a j (by omega)))
  obtain ⟨K, e56, hK1, hK2, hK3⟩ := S_56 (d := d) (sp := sp) (rt := rt) (tt := tt) (z := z) ok1.1 ok1.2.1 ok1.2.2 (p := p) (by rw [e26]; exact hp) (L := L) ((hZ 9 5 (by decide)).trans h95) hL
  rw [ef] at hK3
  have Z1 := FZ_t hZ (FL_Z hK1)
  obtain ⟨K2, e85, hK⟩ := S_85 (d := d + 3) (sp := sp) (rt := rt) h (p := p) (day := Int.tdiv (I 0 0) 1440) Z1 hK2 (e := fct I p) (fun k h1 h2 => hK3 k ⟨h1, h2⟩)
  obtain ⟨K3, e85', hK'⟩ := S_85 (d := d + 3) (sp := sp) (rt := rt) (TV_Z hZ h) (p := p) (day := Int.tdiv (I 0 0) 1440) (FL_Z hK1) hK2 (e := fct I p) (fun k h1 h2 => hK3 k ⟨h1, h2⟩)
  have e23 : K2 = K3 := by
    rw [e85] at e85'
    injection e85' with w
    have w2 := congrArg (fun r : Option AV × Hp => r.2.1) w
    exact w2
  refine ⟨K2, (K_184 ..).trans ((T_184_0 ..).trans (bd_t e56 ((T_184_5 ..).trans ?_))), ⟨by rw [e23]; exact hK'.1.1, hK.1.1⟩, hK.1.2⟩
  rw [Z1 5 _ (by omega), Z1 4 _ (by omega)]
  refine ci_t (by omega) (ci_t (by omega) (bd_t S_47 ?_))
  rw [Z1 0 0 (by decide), w32_of (x := Int.tdiv (I 0 0) 1440) (by omega) (by omega)]
  refine (T_184_38 ..).trans (bd_t e85 ?_)
  exact T_184_41 ..
theorem S_329 (h : TV I tt z c L) (hh : InvW I ∧ GN0 I ∧ GK I) (hx : GX I sp tt z.1) {p : Int} (hp : 0 ≤ p ∧ p < I 2 6) {H : Nat → Nat → Int} (hZ : FZ I H) (gH : GK H) : ∃ K, Call PG (d + 11) 329 [(2, 82), (0, p)] (H, RF sp rt tt z.1, z) = some (some (0, wvv I p ((bc (bf I p (Int.tdiv (I 0 0) 1440) (STK I p (Int.tdiv (I 0 0) 1440) c (fun _ _ => false)) L (fct I p)) (12 * c) : Nat) : Int)), (K, RF sp rt tt z.1, z)) ∧ FZ I K ∧ GK K := by
  have p1 := hh.1.2.1.1
  have p2 := hh.1.2.1.2.2.1
  obtain ⟨K, e277, hK⟩ := S_277 (d := d) (sp := sp) (rt := rt) h hh hx (x := -1) hp hZ gH
  refine ⟨K, (K_329 ..).trans ((T_329_0 ..).trans ?_), (RL_Z hK).1⟩
  rw [hZ 86 _ (by omega), hZ 85 _ (by omega), p2.2.1, p2.2.2.1]
  refine ci_t (by omega) (ci_t (by omega) (bd_t e277 ?_))
  exact T_329_24 ..
theorem o_worth (p : Int) (hh : InvS I ∧ GN0 I ∧ GK I) (hx : GX I sp tt z.1) : OpL GX 0 183 328 [(0, p)] I sp rt tt z := by
  obtain ⟨c, L, hV, h95, hL⟩ := GX_TV hx
  have p1 := hh.1.2.1.1
  by_cases c3 : 0 ≤ p ∧ p < I 2 6
  · obtain ⟨K, e184, hK⟩ := S_184 (d := 291) (sp := sp) (rt := rt) hV h95 hL hh hx c3 FZ_r hh.2.2
    obtain ⟨J, e329, hJ⟩ := S_329 (d := 288) (sp := sp) (rt := rt) hV (IW hh) hx c3 hK.1.2 hK.2
    have k3 : K 82 3 = I 2 6 := (hK.1.2 82 3 (by decide)).trans p1.1
    obtain ⟨f1, f2⟩ := FZ_ok hh hx hJ.1 hJ.2
    refine ⟨wvv I p ((bc (bf I p (Int.tdiv (I 0 0) 1440) (STK I p (Int.tdiv (I 0 0) 1440) c (fun _ _ => false)) L (fct I p)) (12 * c) : Nat) : Int), K, J, ?_, ?_, f1, f2⟩
    · refine (K_183 ..).trans ((T_183_0 ..).trans (bd_t S_18 ?_))
      rw [bz_t c3]
      exact (T_183_8 ..).trans (ci_f (by decide) (bd_t e184 (T_183_16 ..)))
    · refine (K_328 ..).trans ((T_328_0 ..).trans (bd_t (S_212 (by rw [k3]; omega)) ?_))
      rw [k3, bz_t c3]
      exact (T_328_5 ..).trans (ci_f (by decide) (bd_t e329 (T_328_13 ..)))
  · refine ⟨-1, I, I, ?_, ?_, hh, hx⟩
    · refine (K_183 ..).trans ((T_183_0 ..).trans (bd_t S_18 ?_))
      rw [bz_f c3]
      exact (T_183_8 ..).trans (ci_t rfl rfl)
    · refine (K_328 ..).trans ((T_328_0 ..).trans (bd_t (S_212 (by omega)) ?_))
      rw [p1.1, bz_f c3]
      exact (T_328_5 ..).trans (ci_t rfl rfl)
end WO0

