/-! a door, a fan -/
theorem LOC_r {I : Nat → Nat → Int} {q : Int} (hn : GN0 I) : LOC (I 119) (I 120) (I 119) (I 120) (I 25 1).toNat (I 25 1).toNat (fun b => I 33 b = q) := ⟨Nat.le_refl _, fun r hr => ⟨⟨rfl, rfl⟩, by
  show I 33 (I 119 r).toNat = q ↔ I 33 (I 120 r).toNat = q
  rw [(hn.2.2.2.2.2.2.2.1 r hr).1]⟩, fun r a b => by omega⟩
section D1
variable {I : Nat → Nat → Int} {sp rt : Nat} {tt : Nat → Nat} {z : Zs}
theorem o_door (r o : Int) (ho : o = 0 ∨ o = 1) (hh : InvS I) (hn : GN0 I) (hk : GK I) : OpN 106 287 [(0, r), (0, o)] I sp rt tt z := by
  have p1 := hh.2.1.1
  have hn0 := hn
  obtain ⟨⟨g1, g2⟩, g3, g4, g5, g6, g7, g8, g9, g10⟩ := hn
  by_cases c : (0 ≤ r ∧ r < I 25 1) ∧ ¬ I 32 r.toNat = 0
  · obtain ⟨r, rfl⟩ := Int.eq_ofNat_of_zero_le c.1.1
    have hr : r < (I 25 1).toNat := by omega
    have nv := g7.1.1 r hr
    have hpit := (g6 (I 119 r).toNat (by omega)).1
    have r150 : r < 150 := by omega
    have cd : ¬ I 32 r = 0 := c.2
    have d9 := (g9 r hr).2.2
    obtain ⟨p, hp⟩ : ∃ p, p = I 33 (I 119 r).toNat := ⟨_, rfl⟩
    refine ⟨1, up2 (up2 I 32 r (if o = 0 then 1 else 2)) 44 p.toNat (-2), up2 (up2 (up2 I 32 r (if o = 0 then 1 else 2)) 44 p.toNat (-2)) 123 r o, ?_, ?_, ?_, ⟨?_, ?_, ?_⟩, ?_⟩
    · refine (K_106 ..).trans ((T_106_0 ..).trans (bd_t (S_107 (by omega)) ((T_106_8 ..).trans (ci_bf ⟨c.1.1, c.1.2, cd⟩ (bd_t (S_109a r150) ((T_106_22 ..).trans (bd_t (S_60 (I := up2 I 32 r (if o = 0 then 1 else 2)) g7 hr) ((T_106_34 ..).trans ?_))))))))
      rw [show up2 I 32 r (if o = 0 then 1 else 2) 33 (I 119 r).toNat = p from hp.symm]
      exact bd_t (S_105 (by omega)) (T_106_37 ..)
    · refine (S_287 (by show 0 ≤ I 82 7 ∧ I 82 7 ≤ 150; omega) ho).trans (if_pos ?_)
      show (0 ≤ (r : Int) ∧ (r : Int) < I 82 7) ∧ ¬ I 122 r = 0
      omega
    · refine InvS_m (mkI_eq (fun a j hm => ?_)) hh
      have := of_decide_eq_true hm
      rw [up2_ne (by omega), up2_ne (by omega), up2_ne (by omega)]
    · refine ⟨⟨g1, g2⟩, g3, g4, g5, g6, g7, g8, ?_, g10⟩
      intro q hq
      have h9 := g9 q hq
      refine ⟨h9.1, h9.2.1, ?_⟩
      have e32 : up2 (up2 (up2 I 32 r (if o = 0 then 1 else 2)) 44 p.toNat (-2)) 123 r o 32 q = if q = r then (if o = 0 then 1 else 2) else I 32 q := by
        rw [up2_ne (by decide), up2_ne (by decide), up2_at]
      have e123 : up2 (up2 (up2 I 32 r (if o = 0 then 1 else 2)) 44 p.toNat (-2)) 123 r o 123 q = if q = r then o else I 123 q := by
        rw [up2_at, up2_ne (by decide), up2_ne (by decide)]
      rw [e32, e123]
      show (_ ∧ I 122 q = 0 ∧ _) ∨ (_ ∧ I 122 q = 1 ∧ _) ∨ (_ ∧ I 122 q = 1 ∧ _)
      by_cases w : q = r
      · subst w
        rw [if_pos rfl, if_pos rfl]
        rcases ho with rfl | rfl
        · rw [if_pos rfl]; omega
        · rw [if_neg (by decide)]; omega
      · rw [if_neg w, if_neg w]; exact h9.2.2
    · intro q hq
      exact hk.1 q hq
    · intro q hq
      have e44 : up2 (up2 (up2 I 32 r (if o = 0 then 1 else 2)) 44 p.toNat (-2)) 123 r o 44 q = if q = p.toNat then -2 else I 44 q := by
        rw [up2_ne (by decide), up2_at, up2_ne (by decide)]
      rw [e44]
      by_cases w : q = p.toNat
      · rw [if_pos w]; exact Or.inl rfl
      · rw [if_neg w]
        have hl := LVc_loc (I := I) (J := up2 (up2 (up2 I 32 r (if o = 0 then 1 else 2)) 44 p.toNat (-2)) 123 r o) (q := (q : Int)) hn0 (by omega) (LOC_r hn0) (Nat.le_refl _) (fun x hx e => by
          rw [up2_ne (by decide), up2_ne (by decide), up2_at, if_neg (fun v => w (by rw [v] at e; omega))]) (fun _ _ => rfl) (fun _ _ => rfl) (fun x a b => by
            have b : x < (I 25 1).toNat := b
            omega) ⟨rfl, rfl, rfl⟩
        rcases hk.2 q hq with u | ⟨u1, u2⟩
        · exact Or.inl u
        · refine Or.inr ⟨by rw [hl.1]; exact u1, fun x hx e => ?_⟩
          exact (u2 x hx e).trans (hl.2 x hx e).symm
    · refine mkI_eq (fun a j hm => ?_)
      have := of_decide_eq_true hm
      rw [up2_ne (by omega), up2_ne (by omega), up2_ne (by omega)]
  · refine ⟨0, I, I, ?_, ?_, hh, ⟨hn0, hk⟩, rfl⟩
    · exact (K_106 ..).trans ((T_106_0 ..).trans (bd_t (S_107 (by omega)) ((T_106_8 ..).trans (ci_bt (fun q => c ⟨⟨q.1, q.2.1⟩, q.2.2⟩) rfl))))
    · refine (S_287 (by omega) ho).trans (if_neg (fun q => c ⟨by omega, ?_⟩))
      have d9 := (g9 r.toNat (by omega)).2.2
      omega
theorem o_fan (p a b w : Int) (hh : InvS I) (hn : GN0 I) (hk : GK I) : OpN 110 289 [(0, p), (0, a), (0, b), (0, w)] I sp rt tt z := by
  have p1 := hh.2.1.1
  have hn0 := hn
  obtain ⟨⟨g1, g2⟩, g3, g4, g5, g6, g7, g8, g9, g10⟩ := hn
  have ea := g3.1 a.toNat
  have eb := g3.1 b.toNat
  by_cases c : (0 ≤ p ∧ p < I 2 6) ∧ (0 ≤ a ∧ a < I 25 0 ∧ I 33 a.toNat = p) ∧ (0 ≤ b ∧ b < I 25 0 ∧ I 33 b.toNat = p) ∧ ¬ a = b ∧ 0 ≤ w ∧ w ≤ 1000000
  · obtain ⟨c1, c2, c3, c4⟩ := c
    have s111 := (S_111 (d := 297) (I := I) (sp := sp) (rt := rt) (tt := tt) (z := z) (p := p) (a := a) (b := b) (w := w) (by omega)).trans (if_pos c4)
    have hf : ∀ (c : Nat) (q : Nat), up2 (up2 (up2 (up2 (up2 (up2 (up2 I 39 p.toNat a) 40 p.toNat b) 41 p.toNat w) 44 p.toNat (-2)) 116 p.toNat a) 117 p.toNat b) 118 p.toNat w c q = if q = p.toNat then (if c = 118 then w else if c = 117 then b else if c = 116 then a else if c = 44 then -2 else if c = 41 then w else if c = 40 then b else if c = 39 then a else I c q) else I c q := by
      intro c q
      simp only [up2_def]
      by_cases h : q = p.toNat
      · simp only [h, and_true, if_true]
      · simp only [h, and_false, if_false]
    have hf1 : ∀ (c : Nat) (q : Nat), ¬ q = p.toNat → up2 (up2 (up2 (up2 (up2 (up2 (up2 I 39 p.toNat a) 40 p.toNat b) 41 p.toNat w) 44 p.toNat (-2)) 116 p.toNat a) 117 p.toNat b) 118 p.toNat w c q = I c q := fun c q h => by rw [hf, if_neg h]
    refine ⟨1, up2 (up2 (up2 (up2 I 39 p.toNat a) 40 p.toNat b) 41 p.toNat w) 44 p.toNat (-2), up2 (up2 (up2 (up2 (up2 (up2 (up2 I 39 p.toNat a) 40 p.toNat b) 41 p.toNat w) 44 p.toNat (-2)) 116 p.toNat a) 117 p.toNat b) 118 p.toNat w, ?_, ?_, ?_, ⟨?_, ?_, ?_⟩, ?_⟩
    · refine (K_110 ..).trans ((T_110_0 ..).trans (bd_t S_18 ((T_110_8 ..).trans (ci_bf c1 (bd_t (S_103 (by omega)) ((T_110_20 ..).trans (ci_bf c2 (bd_t (S_103 (by omega)) ((T_110_32 ..).trans (ci_bf c3 (bd_t s111 ((T_110_49 ..).trans ?_))))))))))))
      exact if_pos (Or.inr rfl)
    · refine (S_289 (by show 0 ≤ I 82 3 ∧ I 82 3 ≤ 12; omega) (by show 0 ≤ I 82 6 ∧ I 82 6 ≤ 80; omega)).trans (if_pos ?_)
      show (0 ≤ p ∧ p < I 82 3) ∧ (0 ≤ a ∧ a < I 82 6) ∧ (0 ≤ b ∧ b < I 82 6) ∧ ¬ a = b ∧ I 114 a.toNat = p ∧ I 114 b.toNat = p ∧ 0 ≤ w ∧ w ≤ 1000000
      omega
    · refine InvS_m (mkI_eq (fun x j hm => ?_)) hh
      have := of_decide_eq_true hm
      rw [up2_ne (by omega), up2_ne (by omega), up2_ne (by omega), up2_ne (by omega), up2_ne (by omega), up2_ne (by omega), up2_ne (by omega)]
    · refine ⟨⟨g1, g2⟩, g3, ?_, ?_, g6, g7, g8, g9, ?_⟩
      · intro q hq
        have h4 := g4 q hq
        rw [hf 115, hf 34, hf 116, hf 39, hf 117, hf 40, hf 118, hf 41]
        by_cases v : q = p.toNat
        · simp [v]
          rw [v] at h4
          exact h4.1
        · simp only [if_neg v]; exact h4
      · intro q hq1 hq2
        have hq1 : (I 2 6).toNat ≤ q := hq1
        rw [hf1 34 q (by omega), hf1 39 q (by omega)]
        exact g5 q hq1 hq2
      · intro q hq
        have hq : q < (I 2 6).toNat := hq
        by_cases v : q = p.toNat
        · right
          have e39 : up2 (up2 (up2 (up2 (up2 (up2 (up2 I 39 p.toNat a) 40 p.toNat b) 41 p.toNat w) 44 p.toNat (-2)) 116 p.toNat a) 117 p.toNat b) 118 p.toNat w 39 q = a := by rw [hf, if_pos v]; rfl
          have e40 : up2 (up2 (up2 (up2 (up2 (up2 (up2 I 39 p.toNat a) 40 p.toNat b) 41 p.toNat w) 44 p.toNat (-2)) 116 p.toNat a) 117 p.toNat b) 118 p.toNat w 40 q = b := by rw [hf, if_pos v]; rfl
          have e41 : up2 (up2 (up2 (up2 (up2 (up2 (up2 I 39 p.toNat a) 40 p.toNat b) 41 p.toNat w) 44 p.toNat (-2)) 116 p.toNat a) 117 p.toNat b) 118 p.toNat w 41 q = w := by rw [hf, if_pos v]; rfl
          rw [Int.toNat_natCast, e39, e40, e41]
          show (0 ≤ a ∧ a < ((I 25 0).toNat : Int)) ∧ (0 ≤ b ∧ b < ((I 25 0).toNat : Int)) ∧ (0 ≤ w ∧ w ≤ 1000000) ∧ I 33 a.toNat = (q : Int) ∧ I 33 b.toNat = (q : Int)
          omega
        · have h10 := g10 q hq
          unfold FN at h10 ⊢
          rw [Int.toNat_natCast] at h10 ⊢
          rw [hf1 39 q v, hf1 40 q v, hf1 41 q v]
          exact h10
    · intro q hq
      exact hk.1 q hq
    · intro q hq
      rw [hf 44]
      by_cases v : q = p.toNat
      · rw [if_pos v]; exact Or.inl rfl
      · rw [if_neg v]
        have hl := LVc_loc (I := I) (J := up2 (up2 (up2 (up2 (up2 (up2 (up2 I 39 p.toNat a) 40 p.toNat b) 41 p.toNat w) 44 p.toNat (-2)) 116 p.toNat a) 117 p.toNat b) 118 p.toNat w) (q := (q : Int)) hn0 (by omega) (LOC_r hn0) (Nat.le_refl _) (fun x hx e => rfl) (fun _ _ => rfl) (fun _ _ => rfl) (fun x a b => by
            have b : x < (I 25 1).toNat := b
            omega) ⟨hf1 39 _ (by rw [Int.toNat_natCast]; exact v), hf1 40 _ (by rw [Int.toNat_natCast]; exact v), hf1 41 _ (by rw [Int.toNat_natCast]; exact v)⟩
        rcases hk.2 q hq with u | ⟨u1, u2⟩
        · exact Or.inl u
        · refine Or.inr ⟨by rw [hl.1]; exact u1, fun x hx e => ?_⟩
          exact (u2 x hx e).trans (hl.2 x hx e).symm
    · refine mkI_eq (fun x j hm => ?_)
      have := of_decide_eq_true hm
      rw [up2_ne (by omega), up2_ne (by omega), up2_ne (by omega), up2_ne (by omega), up2_ne (by omega), up2_ne (by omega), up2_ne (by omega)]
  · refine ⟨0, I, I, ?_, ?_, hh, ⟨hn0, hk⟩, rfl⟩
    · refine (K_110 ..).trans ((T_110_0 ..).trans (bd_t S_18 ((T_110_8 ..).trans ?_)))
      by_cases c1 : 0 ≤ p ∧ p < I 2 6
      · refine ci_bf c1 (bd_t (S_103 (by omega)) ((T_110_20 ..).trans ?_))
        by_cases c2 : 0 ≤ a ∧ a < I 25 0 ∧ I 33 a.toNat = p
        · refine ci_bf c2 (bd_t (S_103 (by omega)) ((T_110_32 ..).trans ?_))
          by_cases c3 : 0 ≤ b ∧ b < I 25 0 ∧ I 33 b.toNat = p
          · refine ci_bf c3 (bd_t ((S_111 (by omega)).trans (if_neg (fun q => c ⟨c1, c2, c3, q⟩))) ((T_110_49 ..).trans ?_))
            exact if_pos (Or.inl rfl)
          · exact ci_bt c3 rfl
        · exact ci_bt c2 rfl
      · exact ci_bt c1 rfl
    · refine (S_289 (by omega) (by omega)).trans (if_neg (fun q => c ?_))
      omega
end D1

