/-! late: who sat still -/
abbrev lateP (I : Nat → Nat → Int) (w : Nat) (lim : Int) (h : Nat) : Prop := (h : Int) < I 55 0 ∧ I 57 h ≤ 2 ∧ ¬ I 70 (40 * w + h) = -1 ∧ I 70 (40 * w + h) < lim ∧ ia64 (shr64 (I 71 w) (h : Int)) 1 = 0
theorem GB_in (c : Nat → Prop) [DecidablePred c] {f : Int} : ∀ n, in32 (itr (GB c f) n 0)
  | 0 => by
    show in32 (0 : Int)
    first | decide | (unfold in32; omega)
  | n + 1 => by
    show in32 (GB c f n (itr (GB c f) n 0))
    have w := GB_in c (f := f) n
    unfold GB at w ⊢
    split
    · exact io32_in _ _
    · exact w
section OL0
variable {d : Nat} {I : Nat → Nat → Int} {sp rt : Nat} {tt : Nat → Nat} {z : Zs}
theorem L_176 {w k : Nat} (hw : w < 60) {f lim : Int} (hf : f = 0 ∧ k = 0 ∨ f = 1 ∧ k = 20) {K : Nat → Nat → Int} (h40 : I 55 0 ≤ 40) (h55 : K 55 0 = I 55 0) (h57 : ∀ j, K 57 j = I 57 j) (h70 : ∀ j, K 70 j = I 70 j) (h71 : ∀ j, K 71 j = I 71 j) : ∀ (u b : Nat) (x7 x8 : AV), dl x7 → dl x8 → b + u = 20 → Run PG (Call PG (d + 1)) 176 6 [(2, 68), (0, (w : Int)), (0, lim), (0, f), (2, 55), (0, itr (fun (b : Nat) (a : Int) => if lateP I w lim (k + b) then io32 a (shl32 1 (b : Int)) else a) b 0), (0, (b : Int)), x7, x8] [] (K, RF sp rt tt z.1, z) (0, 0) = some (some (0, itr (fun (b : Nat) (a : Int) => if lateP I w lim (k + b) then io32 a (shl32 1 (b : Int)) else a) 20 0), (K, RF sp rt tt z.1, z)) := by
  intro u
  induction u with
  | zero =>
    intro b x7 x8 h7 h8 hb
    rw [show b = 20 by omega]
    exact (T_176_6 _ _ _ _ _ _ _ _ _ _ _ _ _ h7 h8).trans (ci_f (by omega) rfl)
  | succ u ih =>
    intro b x7 x8 h7 h8 hb
    have hk : k ≤ 20 := by omega
    have ex : w32 (w32 (f * 20) + (b : Int)) = ((k + b : Nat) : Int) := by
      rcases hf with ⟨rfl, rfl⟩ | ⟨rfl, rfl⟩
      · rw [w32_of (x := (0 : Int) * 20) (by omega) (by omega), w32_of (by omega) (by omega)]
        omega
      · rw [w32_of (x := (1 : Int) * 20) (by omega) (by omega), w32_of (by omega) (by omega)]
        omega
    have s149 := S_149 (d := d) (I := K) (sp := sp) (rt := rt) (tt := tt) (z := z) (p := ((k + b : Nat) : Int))
    rw [h55] at s149
    have NXT : ∀ y7 y8 : AV, dl y7 → dl y8 → ¬ lateP I w lim (k + b) → Run PG (Call PG (d + 1)) 176 6 [(2, 68), (0, (w : Int)), (0, lim), (0, f), (2, 55), (0, itr (fun (b : Nat) (a : Int) => if lateP I w lim (k + b) then io32 a (shl32 1 (b : Int)) else a) b 0), (0, w32 ((b : Int) + 1)), y7, y8] [] (K, RF sp rt tt z.1, z) (0, 0) = some (some (0, itr (fun (b : Nat) (a : Int) => if lateP I w lim (k + b) then io32 a (shl32 1 (b : Int)) else a) 20 0), (K, RF sp rt tt z.1, z)) := by
      intro y7 y8 g7 g8 hn
      have e : itr (fun (b : Nat) (a : Int) => if lateP I w lim (k + b) then io32 a (shl32 1 (b : Int)) else a) (b + 1) 0 = itr (fun (b : Nat) (a : Int) => if lateP I w lim (k + b) then io32 a (shl32 1 (b : Int)) else a) b 0 := if_neg hn
      have v := ih (b + 1) y7 y8 g7 g8 (by omega)
      rw [e] at v
      rw [w_n (by omega)]
      exact v
    refine (T_176_6 _ _ _ _ _ _ _ _ _ _ _ _ _ h7 h8).trans ?_
    rw [ex]
    refine ci_t (by omega) (bd_t s149 ?_)
    refine (T_176_29 _ _ _ _ _ _ _ _ _ _ _ _ _ _ h8).trans ?_
    rw [show ((((k + b : Nat) : Int)).toNat) = k + b by omega, h57]
    by_cases c1 : 0 ≤ ((k + b : Nat) : Int) ∧ ((k + b : Nat) : Int) < I 55 0
    · rw [bz_t c1]
      refine ci_f (by decide) (ci_t (by omega) ?_)
      by_cases c2 : I 57 (k + b) ≤ 2
      · have s168 := S_168 (d := d) (I := K) (sp := sp) (rt := rt) (tt := tt) (z := z) (w := (w : Int)) (h := ((k + b : Nat) : Int)) (by omega) (by omega)
        rw [show (40 * (w : Int) + ((k + b : Nat) : Int)).toNat = 40 * w + (k + b) by omega, h70] at s168
        refine ci_t c2 (ci_f (by decide) (bd_t s168 ?_))
        refine (T_176_63 ..).trans ?_
        by_cases c3 : I 70 (40 * w + (k + b)) = -1
        · rw [bz_f (fun r => r c3)]
          exact ci_t rfl (NXT _ _ (dl0 _) (dl0 _) (fun r => r.2.2.1 c3))
        · rw [bz_t c3, w32_of (x := (w : Int) * 40) (by omega) (by omega), w32_of (x := (w : Int) * 40 + ((k + b : Nat) : Int)) (by omega) (by omega), show ((w : Int) * 40 + ((k + b : Nat) : Int)).toNat = 40 * w + (k + b) by omega, h70]
          refine ci_f (by decide) (ci_t (by omega) ?_)
          by_cases c4 : I 70 (40 * w + (k + b)) < lim
          · have s171 := S_171 (d := d) (I := K) (sp := sp) (rt := rt) (tt := tt) (z := z) (w := (w : Int)) (h := ((k + b : Nat) : Int)) (by omega)
            rw [show ((w : Int)).toNat = w by omega, h71] at s171
            refine ci_t c4 (bd_t s171 ?_)
            refine (T_176_89 ..).trans ?_
            by_cases c5 : ia64 (shr64 (I 71 w) ((k + b : Nat) : Int)) 1 = 0
            · rw [bz_f (fun r => r c5)]
              refine ci_t rfl ?_
              have e : itr (fun (b : Nat) (a : Int) => if lateP I w lim (k + b) then io32 a (shl32 1 (b : Int)) else a) (b + 1) 0 = io32 (itr (fun (b : Nat) (a : Int) => if lateP I w lim (k + b) then io32 a (shl32 1 (b : Int)) else a) b 0) (shl32 1 (b : Int)) := if_pos ⟨c1.2, c2, c3, c4, c5⟩
              have v := ih (b + 1) (0, ((k + b : Nat) : Int)) (0, 1) (dl0 _) (dl0 _) (by omega)
              rw [e] at v
              rw [w_n (by omega)]
              exact v
            · rw [bz_t c5]
              exact ci_f (by decide) (NXT _ _ (dl0 _) (dl0 _) (fun r => c5 r.2.2.2.2))
          · exact ci_f c4 (NXT _ _ (dl0 _) (dl0 _) (fun r => c4 r.2.2.2.1))
      · exact ci_f c2 (ci_t rfl (NXT _ _ (dl0 _) (dl0 _) (fun r => c2 r.2.1)))
    · rw [bz_f c1]
      exact ci_t rfl (ci_t rfl (NXT _ _ (dl0 _) (dl0 _) (fun r => c1 ⟨by omega, r.1⟩)))
theorem L_323 {w : Nat} (hw : w < 60) {f hr lim : Int} (hhr : 0 ≤ hr ∧ hr ≤ 99999) (t0 : 0 ≤ I 0 0 ∧ I 0 0 ≤ 5000000) (hlim : lim = I 0 0 - 60 * hr) {N : Nat} (hN : I 55 0 = (N : Int) ∧ N ≤ 40) (b70 : ∀ h, h < 40 → -1 ≤ I 70 (40 * w + h) ∧ I 70 (40 * w + h) ≤ I 0 0) {J : Nat → Nat → Int} (j2 : J 82 2 = I 0 0) (j4 : J 82 4 = (N : Int)) (j92 : ∀ j, J 92 j = I 57 j) (j153 : ∀ h, h < 40 → J 153 (40 * w + h) = I 70 (40 * w + h)) (j154 : ∀ h : Nat, h < 40 → (ia64 (shr64 (I 71 w) (h : Int)) 1 = 0 ↔ J 154 (40 * w + h) = 0)) : ∀ (u n : Nat) (x6 : AV), dl x6 → n + u = N → Run PG (Call PG (d + 1)) 323 37 [(2, 82), (0, (w : Int)), (0, f), (0, hr), (0, itr (GB (lateP I w lim) f) n 0), (0, (n : Int)), x6] [] (J, RF sp rt tt z.1, z) (0, 0) = some (some (0, itr (GB (lateP I w lim) f) N 0), (J, RF sp rt tt z.1, z)) := by
  intro u
  induction u with
  | zero =>
    intro n x6 h6 hn
    rw [show n = N by omega]
    refine (T_323_37 _ _ _ _ _ _ _ _ _ _ _ _ h6).trans ?_
    rw [j4]
    exact ci_f (by omega) rfl
  | succ u ih =>
    intro n x6 h6 hn
    have NXT : ∀ y6 : AV, dl y6 → ¬ lateP I w lim n → Run PG (Call PG (d + 1)) 323 37 [(2, 82), (0, (w : Int)), (0, f), (0, hr), (0, itr (GB (lateP I w lim) f) n 0), (0, w32 ((n : Int) + 1)), y6] [] (J, RF sp rt tt z.1, z) (0, 0) = some (some (0, itr (GB (lateP I w lim) f) N 0), (J, RF sp rt tt z.1, z)) := by
      intro y6 g6 hq
      have e : itr (GB (lateP I w lim) f) (n + 1) 0 = itr (GB (lateP I w lim) f) n 0 := if_neg (fun r => hq r.1)
      have v := ih (n + 1) y6 g6 (by omega)
      rw [e] at v
      rw [w_n (by omega)]
      exact v
    have b7 := b70 n (by omega)
    refine (T_323_37 _ _ _ _ _ _ _ _ _ _ _ _ h6).trans ?_
    rw [w32_of (x := 40 * (w : Int)) (by omega) (by omega), w32_of (x := 40 * (w : Int) + (n : Int)) (by omega) (by omega), show (40 * (w : Int) + (n : Int)).toNat = 40 * w + n by omega, show ((n : Int)).toNat = n by omega, j2, j4, j92, j153 n (by omega)]
    refine ci_t (by omega) (ci_f (by omega) (ci_t (by omega) ?_))
    by_cases c2 : I 57 n < 3
    · refine ci_t c2 (ci_t (by omega) ?_)
      by_cases c3 : I 70 (40 * w + n) = -1
      · exact ci_t c3 (NXT _ (dl0 _) (fun r => r.2.2.1 c3))
      · refine ci_f c3 (ci_t (by omega) ?_)
        by_cases c5 : J 154 (40 * w + n) = 0
        · refine ci_t c5 (ci_t (by omega) ?_)
          rw [w32_of (x := I 0 0 - I 70 (40 * w + n)) (by omega) (by omega), w32_of (x := 60 * hr) (by omega) (by omega)]
          by_cases c4 : I 0 0 - I 70 (40 * w + n) ≤ 60 * hr
          · exact ci_t c4 (NXT _ (dl0 _) (fun r => by have := r.2.2.2.1; omega))
          · refine ci_f c4 (bd_t S_315 ?_)
            refine (T_323_119 ..).trans ?_
            have hp : lateP I w lim n := ⟨by omega, by omega, c3, by omega, (j154 n (by omega)).2 c5⟩
            have e : itr (GB (lateP I w lim) f) (n + 1) 0 = io32 (itr (GB (lateP I w lim) f) n 0) (if w32 (Int.tdiv (n : Int) 20) = f then shl32 1 (Int.tmod (n : Int) 20) else 0) := by
              show GB (lateP I w lim) f n (itr (GB (lateP I w lim) f) n 0) = _
              by_cases q : w32 (Int.tdiv (n : Int) 20) = f
              · rw [if_pos q]
                exact if_pos ⟨hp, q⟩
              · rw [if_neg q, io32_0 (GB_in _ n)]
                exact if_neg (fun r => q r.2)
            have v := ih (n + 1) (0, 40 * (w : Int) + (n : Int)) (dl0 _) (by omega)
            rw [e] at v
            rw [w_n (by omega)]
            exact v
        · exact ci_f c5 (NXT _ (dl0 _) (fun r => c5 ((j154 n (by omega)).1 r.2.2.2.2)))
    · exact ci_f c2 (NXT _ (dl0 _) (fun r => c2 (by have := r.2.1; omega)))
theorem o_late (w f : Int) (hh : InvS I ∧ GN0 I ∧ GK I) (hx : GX I sp tt z.1) : OpL GX 0 174 323 [(0, w), (0, f)] I sp rt tt z := by
  obtain ⟨c, L, hV, h95, hL⟩ := GX_TV hx
  have hc := hV.1
  have t0 := hh.1.1.1
  have hd := day_b t0.2
  have p1 := hh.1.2.1.1
  have g4 := hh.1.2.2.1.1.1
  have gw := hh.1.2.2.2.1
  have s320 := S_320 (d := 297) (I := I) (sp := sp) (rt := rt) (tt := tt) (z := z) (p := w) (by have := gw.1; omega)
  rw [gw.1.1] at s320
  have d1 : Call PG 300 174 [(2, 0), (0, w), (0, f)] (I, RF sp rt tt z.1, z) = Run PG (Call PG 299) 174 8 [(2, 0), (0, w), (0, f), (9, 0), (9, 0)] [(0, bz (0 ≤ w ∧ w < I 68 0))] (I, RF sp rt tt z.1, z) (0, 0) := (K_174 ..).trans ((T_174_0 ..).trans (bd_t S_166 rfl))
  have d2 : Call PG 300 323 [(2, 82), (0, w), (0, f)] (I, RF sp rt tt z.1, z) = Run PG (Call PG 299) 323 5 [(2, 82), (0, w), (0, f), (9, 0), (9, 0), (9, 0), (9, 0)] [(0, bz (0 ≤ w ∧ w < I 68 0))] (I, RF sp rt tt z.1, z) (0, 0) := (K_323 ..).trans ((T_323_0 ..).trans (bd_t s320 rfl))
  by_cases c1 : 0 ≤ w ∧ w < I 68 0
  · by_cases c2 : 0 ≤ f ∧ f ≤ 1
    · obtain ⟨n, rfl⟩ := Int.eq_ofNat_of_zero_le c1.1
      have g1 := gw.1
      have hn : n < 60 := by omega
      have hp := gw.2.2.1 n (by omega)
      obtain ⟨N, eN⟩ := Int.eq_ofNat_of_zero_le g4.2.1
      obtain ⟨K1, e56, hK1, hK2, hK3⟩ := S_56 (d := 292) (sp := sp) (rt := rt) (tt := tt) (z := z) hh.1 hh.2.1 hh.2.2 hp h95 hL
      have Z1 := FL_Z hK1
      obtain ⟨K, e175, Z, gK⟩ := S_175 (d := 295) (sp := sp) (rt := rt) hV (p := I 69 n) (day := Int.tdiv (I 0 0) 1440) Z1 hK2 (e := fct I (I 69 n)) (fun k h1 h2 => hK3 k ⟨h1, h2⟩)
      obtain ⟨J, e324, hJ, gJ⟩ := S_324 (d := 289) (sp := sp) (rt := rt) hV hh hx hp Z gK
      have hr := lh_r (g := hs I (I 69 n) (Int.tdiv (I 0 0) 1440) (STK I (I 69 n) (Int.tdiv (I 0 0) 1440) c (fun _ _ => false)) L (fct I (I 69 n))) (v := I 100) (P := fun x => x = -1 ∨ (0 ≤ x ∧ x ≤ 99999)) (Or.inl rfl) (12 * c) (fun k hk hg => by
        obtain ⟨i, j, rfl, hj⟩ : ∃ i j, k = 12 * i + j ∧ j < 12 := ⟨k / 12, k % 12, by omega, by omega⟩
        have q := (hs_t hj).1 hg
        obtain ⟨m, hm⟩ := hV.2.2.2.2 i (by omega)
        have e97 := hm.2.1.2
        have q1 := q.1.2.1
        exact Or.inr ((hm.2.2.2 j (by omega)).2.2.1 (Or.inr q.2.1)).2)
      generalize lh (hs I (I 69 n) (Int.tdiv (I 0 0) 1440) (STK I (I 69 n) (Int.tdiv (I 0 0) 1440) c (fun _ _ => false)) L (fct I (I 69 n))) (I 100) (12 * c) = x at hr e175 e324
      have k15 : K 82 15 = I 68 0 := (Z 82 15 (by decide)).trans g1.1
      have f1 := FZ_ok hh hx hJ gJ
      have a1 : Call PG 300 174 [(2, 0), (0, (n : Int)), (0, f)] (I, RF sp rt tt z.1, z) = Run PG (Call PG 299) 174 49 [(2, 0), (0, (n : Int)), (0, f), (0, I 69 n), (9, 0)] [(0, x)] (K, RF sp rt tt z.1, z) (0, 0) := by
        refine d1.trans ?_
        rw [bz_t c1]
        refine (T_174_8 ..).trans (ci_f (by decide) (bd_t S_13 ?_))
        rw [bz_t c2]
        refine (T_174_17 ..).trans (ci_f (by decide) (ci_t (by omega) ?_))
        rw [show ((n : Int)).toNat = n by omega]
        refine bd_t e56 ((T_174_37 ..).trans (bd_t S_47 ?_))
        rw [Z1 0 0 (by decide), w32_of (x := Int.tdiv (I 0 0) 1440) (by omega) (by omega)]
        exact (T_174_46 ..).trans (bd_t e175 rfl)
      have a2 : Call PG 300 323 [(2, 82), (0, (n : Int)), (0, f)] (K, RF sp rt tt z.1, z) = Run PG (Call PG 299) 323 37 [(2, 82), (0, (n : Int)), (0, f), (0, x), (0, 0), (0, 0), (9, 0)] [] (J, RF sp rt tt z.1, z) (0, 0) := by
        have s := S_320 (d := 297) (I := K) (sp := sp) (rt := rt) (tt := tt) (z := z) (p := (n : Int)) (by rw [k15]; omega)
        rw [k15, bz_t c1] at s
        refine (K_323 ..).trans ((T_323_0 ..).trans (bd_t s ?_))
        refine (T_323_5 ..).trans (ci_f (by decide) (bd_t S_209 ?_))
        rw [bz_t c2]
        refine (T_323_15 ..).trans (ci_f (by decide) (ci_t (by omega) ?_))
        rw [show ((n : Int)).toNat = n by omega, Z 152 n (by omega), gw.2.1 n]
        exact bd_t e324 (T_323_30 ..)
      rcases hr with q | q
      · refine ⟨0, K, J, a1.trans ?_, a2.trans ?_, f1.1, f1.2⟩
        · exact (T_174_49 ..).trans (ci_t q (T_174_84 ..))
        · refine (T_323_37 _ _ _ _ _ _ _ _ _ _ _ _ dl9).trans ?_
          by_cases q2 : 0 < J 82 4
          · exact ci_t q2 (ci_t q rfl)
          · exact ci_f q2 rfl
      · obtain ⟨k, hk⟩ : ∃ k : Nat, f = 0 ∧ k = 0 ∨ f = 1 ∧ k = 20 := by
          by_cases q2 : f = 0
          · exact ⟨0, Or.inl ⟨q2, rfl⟩⟩
          · exact ⟨20, Or.inr ⟨by omega, rfl⟩⟩
        have l176 := L_176 (d := 297) (I := I) (sp := sp) (rt := rt) (tt := tt) (z := z) hn hk (lim := I 0 0 - 60 * x) (K := K) g4.2.2 (Z _ _ (by decide)) (fun j => Z _ _ (by omega)) (fun j => Z _ _ (by omega)) (fun j => Z _ _ (by omega)) 20 0 (9, 0) (9, 0) dl9 dl9 rfl
        have l323 := L_323 (d := 298) (I := I) (sp := sp) (rt := rt) (tt := tt) (z := z) hn (f := f) q t0.2 (lim := I 0 0 - 60 * x) rfl (N := N) ⟨eN, by omega⟩ (fun h hh' => (gw.2.2.2.2.2.1 n h (by omega) hh').1) (J := J) ((hJ 82 2 (by decide)).trans t0.1) ((hJ 82 4 (by decide)).trans (g4.1.trans eN)) (fun j => (hJ 92 j (by omega)).trans (hh.1.2.2.1.2.1.2.1 j)) (fun h hh' => (hJ 153 _ (by omega)).trans (gw.2.2.2.1 n h (by omega) hh')) (fun h hh' => by rw [hJ 154 _ (by omega)]; exact (gw.2.2.2.2.2.2 n h hn hh').1) N 0 (9, 0) dl9 (Nat.zero_add _)
        rw [GB_40 (lateP I n (I 0 0 - 60 * x)) (n := N) (k := k) (by omega) (fun h h1 h2 r => by have := r.1; omega) hk] at l323
        refine ⟨_, K, J, a1.trans ?_, a2.trans l323, f1.1, f1.2⟩
        refine (T_174_49 ..).trans (ci_f (by omega) ?_)
        rw [Z 0 0 (by decide), w32_of (x := 60 * x) (by omega) (by omega), w32_of (x := I 0 0 - 60 * x) (by omega) (by omega)]
        exact bd_t ((K_176 ..).trans ((T_176_0 ..).trans l176)) (T_174_84 ..)
    · refine ⟨-1, I, I, ?_, ?_, hh, hx⟩
      · refine d1.trans ?_
        rw [bz_t c1]
        refine (T_174_8 ..).trans (ci_f (by decide) (bd_t S_13 ?_))
        rw [bz_f c2]
        exact (T_174_17 ..).trans (ci_t rfl rfl)
      · refine d2.trans ?_
        rw [bz_t c1]
        refine (T_323_5 ..).trans (ci_f (by decide) (bd_t S_209 ?_))
        rw [bz_f c2]
        exact (T_323_15 ..).trans (ci_t rfl rfl)
  · refine ⟨-1, I, I, ?_, ?_, hh, hx⟩
    · refine d1.trans ?_
      rw [bz_f c1]
      exact (T_174_8 ..).trans (ci_t rfl rfl)
    · refine d2.trans ?_
      rw [bz_f c1]
      exact (T_323_5 ..).trans (ci_t rfl rfl)
end OL0

