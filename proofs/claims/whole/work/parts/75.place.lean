/-! a place -/
theorem up2_id {I : Nat → Nat → Int} {a j : Nat} : up2 I a j (I a j) = I := by
  funext b k
  unfold up2
  split
  · rename_i h; rw [h.1, h.2]
  · rfl
theorem cnt_none {A B : Nat → Int} {a : Int} : ∀ {m : Nat}, (∀ r, r < m → ¬ A r = a ∧ ¬ B r = a) → cnt A B a m = 0
  | 0, _ => rfl
  | m + 1, h => by
    show cnt A B a m + (if A m = a ∨ B m = a then 1 else 0) = 0
    rw [cnt_none (fun r hr => h r (by omega)), if_neg (fun w => by have := h m (by omega); rcases w with q | q; exact this.1 q; exact this.2 q)]
theorem GN0_place {I J : Nat → Nat → Int} {n : Nat} {p bk : Int} (hn : GN0 I) (hk : GK I) (hN : I 25 0 = n) (hlt : n < 80) (hp : 0 ≤ p ∧ p < I 2 6) (hp2 : I 2 6 ≤ 12) (hbk : bk = if I 34 p.toNat = -1 then (n : Int) else I 34 p.toNat)
    (j25 : J 25 0 = n + 1) (j826 : J 82 6 = n + 1) (j251 : J 25 1 = I 25 1) (j827 : J 82 7 = I 82 7) (j26 : J 2 6 = I 2 6)
    (f33 : ∀ j, J 33 j = if j = n then p else I 33 j) (f34 : ∀ j, J 34 j = if j = p.toNat then bk else I 34 j) (f29 : ∀ j, J 29 j = if j = n + 1 then I 29 n else I 29 j) (f114 : ∀ j, J 114 j = if j = n then p else I 114 j) (f115 : ∀ j, J 115 j = if j = p.toNat then bk else I 115 j) (f37 : ∀ j, J 37 j = if j = p.toNat then -2 else I 37 j)
    (e119 : J 119 = I 119) (e120 : J 120 = I 120) (e26 : J 26 = I 26) (e121 : J 121 = I 121) (e27 : J 27 = I 27) (e28 : J 28 = I 28) (e32 : J 32 = I 32) (e122 : J 122 = I 122) (e123 : J 123 = I 123) (e39 : J 39 = I 39) (e40 : J 40 = I 40) (e41 : J 41 = I 41) (e116 : J 116 = I 116) (e117 : J 117 = I 117) (e118 : J 118 = I 118) (e44 : J 44 = I 44) (e42 : J 42 = I 42) : GN0 J ∧ GK J := by
  have hn0 := hn
  obtain ⟨⟨g1, g2⟩, g3, g4, g5, g6, g7, g8, g9, g10⟩ := hn
  have eN : (I 25 0).toNat = n := by omega
  have eN' : (J 25 0).toNat = n + 1 := by omega
  rw [eN] at g6 g7 g8 g10
  obtain ⟨⟨hv, hP, hm⟩, hE, hF, hL⟩ := g7
  have hbk2 : ∀ _ : Unit, 0 ≤ bk ∧ bk < (n : Int) + 1 ∧ (¬ I 34 p.toNat = -1 → bk = I 34 p.toNat) := fun _ => by
    have hb := g8.2.2 p.toNat (by omega)
    rw [hN] at hb
    rw [hbk]
    by_cases c : I 34 p.toNat = -1
    · rw [if_pos c]; exact ⟨by omega, by omega, fun w => absurd c w⟩
    · rw [if_neg c]; exact ⟨by omega, by omega, fun _ => rfl⟩
  refine ⟨⟨⟨by rw [j826, j25]; omega, by rw [j827, j251]; exact g2⟩, ⟨fun j => ?_, fun j => by rw [e121, e26]; exact g3.2 j⟩, fun q hq => ?_, fun q hq1 hq2 => ?_, fun x hx => ?_, ?_, ⟨?_, ?_, fun q hq => ?_⟩, fun r hr => ?_, fun q hq => ?_⟩, fun q hq => ?_, fun q hq => ?_⟩
  · rw [f114, f33]
    split
    · rfl
    · exact g3.1 j
  · rw [j26] at hq
    rw [f115, f34, e116, e39, e117, e40, e118, e41]
    refine ⟨?_, (g4 q hq).2⟩
    split
    · rfl
    · exact (g4 q hq).1
  · rw [j26] at hq1
    rw [f34, e39, if_neg (by omega)]
    exact g5 q hq1 hq2
  · rw [eN'] at hx
    rw [j26, j25]
    by_cases c : x = n
    · rw [f33, if_pos c, f34, if_pos rfl]
      have := hbk2 ()
      exact ⟨hp, this.1, this.2.1⟩
    · have h6 := g6 x (by omega)
      rw [f33, if_neg c, f34]
      refine ⟨h6.1, ?_⟩
      have := hbk2 ()
      by_cases c2 : (I 33 x).toNat = p.toNat
      · rw [if_pos c2]; exact ⟨this.1, this.2.1⟩
      · rw [if_neg c2]; omega
  · rw [e119, e120, e27, e28, eN', j251]
    have nm : ∀ r, r < (I 25 1).toNat → ¬ I 119 r = (n : Int) ∧ ¬ I 120 r = (n : Int) := fun r hr => by
      have := hv r hr
      omega
    refine ⟨⟨fun r hr => ?_, by omega, hm⟩, hE, fun a ha => ?_, fun a r ha hr => ?_⟩
    · have := hv r hr
      omega
    · by_cases c : a = n
      · subst c
        rw [f29, if_pos rfl, f29, if_neg (by omega), cnt_none nm]
        have h8 := g8.2.1
        refine ⟨(Int.add_zero _).symm, by omega, by omega⟩
      · rw [f29, if_neg (by omega), f29, if_neg (by omega)]
        exact hF a (by omega)
    · by_cases c : a = n
      · subst c
        exact ⟨fun q => absurd q (nm r hr).1, fun q => absurd q (nm r hr).2⟩
      · rw [f29, if_neg (by omega)]
        exact hL a r (by omega) hr
  · rw [f29, if_neg (by omega)]; exact g8.1
  · rw [eN', f29, if_pos rfl, j251]; exact g8.2.1
  · rw [j26] at hq
    rw [f34, j25]
    have := hbk2 ()
    have h8 := g8.2.2 q hq
    by_cases c : q = p.toNat
    · rw [if_pos c]; exact Or.inr ⟨this.1, this.2.1⟩
    · rw [if_neg c]; omega
  · rw [j251] at hr
    have nv := hv r hr
    rw [e119, e120, e26, e32, e122, e123, f33, if_neg (by omega), f33, if_neg (by omega)]
    exact g9 r hr
  · rw [j26] at hq
    have h10 := g10 q hq
    unfold FN at h10 ⊢
    rw [e39, e40, e41, eN', f33, f33]
    rcases h10 with u | ⟨u1, u2, u3, u4⟩
    · exact Or.inl u
    · rw [if_neg (by omega), if_neg (by omega)]
      right
      refine ⟨by omega, by omega, u3, u4⟩
  · rw [f37]
    by_cases c : q = p.toNat
    · rw [if_pos c]; exact Or.inl rfl
    · rw [if_neg c]
      have hl := FWc_loc (I := I) (J := J) (q := (q : Int)) hn0 (by omega) (by rw [e119, e120, j251]; exact LOC_r hn0) (by omega) (fun x hx => by rw [f33, if_neg (by omega)]) (by rw [Int.toNat_natCast, f34, if_neg c]) (fun x h1 h2 => by rw [f33, if_pos (by omega)]; omega)
      rw [hl]
      exact hk.1 q hq
  · rw [e44, j251, e119, e42]
    have hl := LVc_loc (I := I) (J := J) (q := (q : Int)) hn0 (by omega) (by rw [e119, e120, j251]; exact LOC_r hn0) (by omega) (fun x hx e => by rw [e32]) (fun x hx => by rw [e26]) (fun x hx => by rw [f33, if_neg (by omega)]) (fun x h1 h2 => by omega) (by rw [e39, e40, e41]; exact ⟨rfl, rfl, rfl⟩)
    rcases hk.2 q hq with u | ⟨u1, u2⟩
    · exact Or.inl u
    · refine Or.inr ⟨by rw [hl.1]; exact u1, fun r hr e => ?_⟩
      have nv := hv r hr
      rw [f33, if_neg (by omega)] at e
      rw [hl.2 r hr e]
      exact u2 r hr e
section D2
variable {d : Nat} {I : Nat → Nat → Int} {sp rt : Nat} {tt : Nat → Nat} {z : Zs}
theorem S_99y {n : Nat} {p : Int} (hN : I 25 0 = n) (hlt : n < 80) (hp : 0 ≤ p ∧ p < 12) : Call PG (d + 1) 99 [(2, 25), (0, p)] (I, RF sp rt tt z.1, z) = some (some (0, (n : Int)), (up2 (up2 (up2 (up2 (up2 I 33 n p) 34 p.toNat (if I 34 p.toNat = -1 then (n : Int) else I 34 p.toNat)) 37 p.toNat (-2)) 29 (n + 1) (I 29 n)) 25 0 ((n : Int) + 1), RF sp rt tt z.1, z)) := by
  refine (K_99 ..).trans ?_
  refine (T_99_0 ..).trans ?_
  rw [hN, w32_of (x := (n : Int) + 1) (by omega) (by omega), w32_of (by omega) (by omega), show ((n : Int) + 1).toNat = n + 1 by omega, Int.toNat_natCast, show (n : Int) + 1 - 1 = n by omega]
  refine ci_t (by omega) ?_
  refine ci_t (by omega) ?_
  refine ci_t hp ?_
  by_cases c : I 34 p.toNat = -1
  · rw [if_pos c]
    refine ci_t c ?_
    refine ci_t hp ?_
    refine ci_t hp ?_
    refine ci_t (by omega) ?_
    exact ci_t (by omega) rfl
  · rw [if_neg c]
    refine ci_f c ?_
    refine ci_t hp ?_
    refine ci_t (by omega) ?_
    refine ci_t (by omega) ?_
    rw [show up2 (up2 I 33 n p) 34 p.toNat (I 34 p.toNat) = up2 I 33 n p from up2_id (I := up2 I 33 n p) (a := 34) (j := p.toNat)]
theorem S_284y {n : Nat} {p : Int} (h3 : 0 ≤ I 82 3 ∧ I 82 3 ≤ 12) (hN : I 82 6 = n) (hlt : n < 80) (hp : 0 ≤ p ∧ p < I 82 3) : Call PG (d + 3) 284 [(2, 82), (0, p)] (I, RF sp rt tt z.1, z) = some (some (0, (n : Int)), (up2 (up2 (up2 I 114 n p) 115 p.toNat (if I 115 p.toNat = -1 then (n : Int) else I 115 p.toNat)) 82 6 ((n : Int) + 1), RF sp rt tt z.1, z)) := by
  have hp12 : 0 ≤ p ∧ p < 12 := by omega
  refine (K_284 ..).trans ?_
  refine (T_284_0 ..).trans ?_
  refine ci_f (by omega) ?_
  refine bd_t (S_212 (by omega)) ?_
  refine (T_284_14 ..).trans ?_
  refine ci_bf hp ?_
  rw [hN, w32_of (x := (n : Int) + 1) (by omega) (by omega), w32_of (by omega) (by omega), Int.toNat_natCast, show (n : Int) + 1 - 1 = n by omega]
  refine ci_t (by omega) ?_
  refine ci_t hp12 ?_
  by_cases c : I 115 p.toNat = -1
  · rw [if_pos c]
    refine ci_t c ?_
    exact ci_t hp12 rfl
  · rw [if_neg c]
    refine ci_f c ?_
    rw [show up2 (up2 I 114 n p) 115 p.toNat (I 115 p.toNat) = up2 I 114 n p from up2_id (I := up2 I 114 n p) (a := 115) (j := p.toNat)]
theorem o_place (p : Int) (hh : InvS I) (hn : GN0 I) (hk : GK I) : OpN 98 284 [(0, p)] I sp rt tt z := by
  have p1 := hh.2.1.1
  have hn0 := hn
  obtain ⟨⟨g1, g2⟩, g3, g4, g5, g6, g7, g8, g9, g10⟩ := hn
  by_cases c : 0 ≤ p ∧ p < I 2 6
  · by_cases c2 : I 25 0 < 80
    · obtain ⟨n, hN⟩ := Int.eq_ofNat_of_zero_le g1.2.1
      obtain ⟨bk, hbk⟩ : ∃ bk, bk = if I 34 p.toNat = -1 then (n : Int) else I 34 p.toNat := ⟨_, rfl⟩
      have h99 := S_99y (d := 298) (I := I) (sp := sp) (rt := rt) (tt := tt) (z := z) (p := p) hN (by omega) (by omega)
      rw [← hbk] at h99
      have h284 := S_284y (d := 297) (I := up2 (up2 (up2 (up2 (up2 I 33 n p) 34 p.toNat bk) 37 p.toNat (-2)) 29 (n + 1) (I 29 n)) 25 0 ((n : Int) + 1)) (sp := sp) (rt := rt) (tt := tt) (z := z) (p := p) (n := n) (by show 0 ≤ I 82 3 ∧ I 82 3 ≤ 12; omega) (by show I 82 6 = n; omega) (by omega) (by show 0 ≤ p ∧ p < I 82 3; omega)
      have eb : (if up2 (up2 (up2 (up2 (up2 I 33 n p) 34 p.toNat bk) 37 p.toNat (-2)) 29 (n + 1) (I 29 n)) 25 0 ((n : Int) + 1) 115 p.toNat = -1 then (n : Int) else up2 (up2 (up2 (up2 (up2 I 33 n p) 34 p.toNat bk) 37 p.toNat (-2)) 29 (n + 1) (I 29 n)) 25 0 ((n : Int) + 1) 115 p.toNat) = bk := by
        rw [show up2 (up2 (up2 (up2 (up2 I 33 n p) 34 p.toNat bk) 37 p.toNat (-2)) 29 (n + 1) (I 29 n)) 25 0 ((n : Int) + 1) 115 p.toNat = I 34 p.toNat from (g4 p.toNat (by omega)).1, hbk]
      rw [eb] at h284
      have hM : ∀ a j, ¬ a = 33 → ¬ a = 34 → ¬ a = 37 → ¬ a = 29 → ¬ (a = 25 ∧ j = 0) → ¬ a = 114 → ¬ a = 115 → ¬ (a = 82 ∧ j = 6) → up2 (up2 (up2 (up2 (up2 (up2 (up2 (up2 I 33 n p) 34 p.toNat bk) 37 p.toNat (-2)) 29 (n + 1) (I 29 n)) 25 0 ((n : Int) + 1)) 114 n p) 115 p.toNat bk) 82 6 ((n : Int) + 1) a j = I a j := fun a j q1 q2 q3 q4 q5 q6 q7 q8 => by
        rw [up2_def, if_neg q8, up2_ne q7, up2_ne q6, up2_def, if_neg q5, up2_ne q4, up2_ne q3, up2_ne q2, up2_ne q1]
      have hM1 : ∀ a, ¬ a = 33 → ¬ a = 34 → ¬ a = 37 → ¬ a = 29 → ¬ a = 25 → ¬ a = 114 → ¬ a = 115 → ¬ a = 82 → up2 (up2 (up2 (up2 (up2 (up2 (up2 (up2 I 33 n p) 34 p.toNat bk) 37 p.toNat (-2)) 29 (n + 1) (I 29 n)) 25 0 ((n : Int) + 1)) 114 n p) 115 p.toNat bk) 82 6 ((n : Int) + 1) a = I a := fun a q1 q2 q3 q4 q5 q6 q7 q8 => funext fun j => hM a j q1 q2 q3 q4 (fun w => q5 w.1) q6 q7 (fun w => q8 w.1)
      have hG : GN0 (up2 (up2 (up2 (up2 (up2 (up2 (up2 (up2 I 33 n p) 34 p.toNat bk) 37 p.toNat (-2)) 29 (n + 1) (I 29 n)) 25 0 ((n : Int) + 1)) 114 n p) 115 p.toNat bk) 82 6 ((n : Int) + 1)) ∧ GK (up2 (up2 (up2 (up2 (up2 (up2 (up2 (up2 I 33 n p) 34 p.toNat bk) 37 p.toNat (-2)) 29 (n + 1) (I 29 n)) 25 0 ((n : Int) + 1)) 114 n p) 115 p.toNat bk) 82 6 ((n : Int) + 1)) := by
        refine GN0_place (n := n) (p := p) (bk := bk) hn0 hk hN (by omega) c (by omega) hbk rfl rfl rfl rfl rfl (fun j => ?_) (fun j => ?_) (fun j => ?_) (fun j => ?_) (fun j => ?_) (fun j => ?_) (hM1 119 ?_ ?_ ?_ ?_ ?_ ?_ ?_ ?_) (hM1 120 ?_ ?_ ?_ ?_ ?_ ?_ ?_ ?_) (hM1 26 ?_ ?_ ?_ ?_ ?_ ?_ ?_ ?_) (hM1 121 ?_ ?_ ?_ ?_ ?_ ?_ ?_ ?_) (hM1 27 ?_ ?_ ?_ ?_ ?_ ?_ ?_ ?_) (hM1 28 ?_ ?_ ?_ ?_ ?_ ?_ ?_ ?_) (hM1 32 ?_ ?_ ?_ ?_ ?_ ?_ ?_ ?_) (hM1 122 ?_ ?_ ?_ ?_ ?_ ?_ ?_ ?_) (hM1 123 ?_ ?_ ?_ ?_ ?_ ?_ ?_ ?_) (hM1 39 ?_ ?_ ?_ ?_ ?_ ?_ ?_ ?_) (hM1 40 ?_ ?_ ?_ ?_ ?_ ?_ ?_ ?_) (hM1 41 ?_ ?_ ?_ ?_ ?_ ?_ ?_ ?_) (hM1 116 ?_ ?_ ?_ ?_ ?_ ?_ ?_ ?_) (hM1 117 ?_ ?_ ?_ ?_ ?_ ?_ ?_ ?_) (hM1 118 ?_ ?_ ?_ ?_ ?_ ?_ ?_ ?_) (hM1 44 ?_ ?_ ?_ ?_ ?_ ?_ ?_ ?_) (hM1 42 ?_ ?_ ?_ ?_ ?_ ?_ ?_ ?_)
        all_goals first | decide | skip
        · rw [up2_ne (by decide), up2_ne (by decide), up2_ne (by decide), up2_ne (by decide), up2_ne (by decide), up2_ne (by decide), up2_ne (by decide), up2_at]
        · rw [up2_ne (by decide), up2_ne (by decide), up2_ne (by decide), up2_ne (by decide), up2_ne (by decide), up2_ne (by decide), up2_at, up2_ne (by decide)]
        · rw [up2_ne (by decide), up2_ne (by decide), up2_ne (by decide), up2_ne (by decide), up2_at, up2_ne (by decide), up2_ne (by decide), up2_ne (by decide)]
        · rw [up2_ne (by decide), up2_ne (by decide), up2_at, up2_ne (by decide), up2_ne (by decide), up2_ne (by decide), up2_ne (by decide), up2_ne (by decide)]
        · rw [up2_ne (by decide), up2_at, up2_ne (by decide), up2_ne (by decide), up2_ne (by decide), up2_ne (by decide), up2_ne (by decide), up2_ne (by decide)]
        · rw [up2_ne (by decide), up2_ne (by decide), up2_ne (by decide), up2_ne (by decide), up2_ne (by decide), up2_at, up2_ne (by decide), up2_ne (by decide)]
      refine ⟨(n : Int), up2 (up2 (up2 (up2 (up2 I 33 n p) 34 p.toNat bk) 37 p.toNat (-2)) 29 (n + 1) (I 29 n)) 25 0 ((n : Int) + 1), up2 (up2 (up2 (up2 (up2 (up2 (up2 (up2 I 33 n p) 34 p.toNat bk) 37 p.toNat (-2)) 29 (n + 1) (I 29 n)) 25 0 ((n : Int) + 1)) 114 n p) 115 p.toNat bk) 82 6 ((n : Int) + 1), ?_, h284, ?_, hG, ?_⟩
      · exact (K_98 ..).trans ((T_98_0 ..).trans (bd_t S_18 ((T_98_8 ..).trans (ci_bf c (bd_t h99 (T_98_19 ..))))))
      · obtain ⟨hT, hP, hC, hW, hL, hI, hS⟩ := hh
        refine ⟨hT, hP, hC, hW, hL, ⟨hI.1, hI.2.1, hI.2.2.1, fun j hj => ?_⟩, hS⟩
        have h4 := hI.2.2.2 j hj
        show (0 ≤ I 79 j ∧ I 79 j < (n : Int) + 1) ∧ 0 ≤ I 80 j ∧ I 80 j ≤ 5000000
        omega
      · refine mkI_eq (fun a j hm => ?_)
        have := of_decide_eq_true hm
        exact hM a j (by omega) (by omega) (by omega) (by omega) (by omega) (by omega) (by omega) (by omega)
    · refine ⟨-1, I, I, ?_, ?_, hh, ⟨hn0, hk⟩, rfl⟩
      · exact (K_98 ..).trans ((T_98_0 ..).trans (bd_t S_18 ((T_98_8 ..).trans (ci_bf c (bd_t ((K_99 ..).trans ((T_99_0 ..).trans (ci_f c2 rfl))) (T_98_19 ..))))))
      · exact (K_284 ..).trans ((T_284_0 ..).trans (ci_t (by omega) rfl))
  · refine ⟨-1, I, I, ?_, ?_, hh, ⟨hn0, hk⟩, rfl⟩
    · exact (K_98 ..).trans ((T_98_0 ..).trans (bd_t S_18 ((T_98_8 ..).trans (ci_bt c rfl))))
    · refine (K_284 ..).trans ((T_284_0 ..).trans ?_)
      by_cases c3 : I 82 6 = 80
      · exact ci_t c3 rfl
      · exact ci_f c3 (bd_t (S_212 (by omega)) ((T_284_14 ..).trans (ci_bt (by omega) rfl)))
end D2

