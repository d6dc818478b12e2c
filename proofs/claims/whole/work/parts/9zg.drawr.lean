/-! send: the reference's draws and worthiest -/
section DQ0
variable {d : Nat} {I : Nat → Nat → Int} {sp rt : Nat} {tt : Nat → Nat} {z : Zs}
theorem L_98 {P : Nat} {M T : Int} (hP : 1 ≤ P ∧ P ≤ 12) (hT : T ≤ (P : Int)) (hM : 1 ≤ M) (eM : I 82 19 = M) (e3 : I 82 3 = (P : Int)) {x1 x2 x3 : Int} : ∀ (u k : Nat) (x : Int) (s : SND) (J : Nat → Nat → Int), k + u = 60 → 0 ≤ x ∧ x ≤ 134455 → SNb I P s J → ∃ K x', Run PG (Call PG (d + 1)) 330 98 [(2, 82), (0, x1), (0, x2), (0, x3), (0, T), (0, x), (0, (k : Int)), (9, 0), (9, 0)] [] (J, RF sp rt tt z.1, z) (0, 0) = Run PG (Call PG (d + 1)) 330 170 [(2, 82), (0, x1), (0, x2), (0, x3), (0, T), (0, x'), (0, ((drw P M T u x s).2.1 : Int)), (9, 0), (9, 0)] [] (K, RF sp rt tt z.1, z) (0, 0) ∧ SNb I P (drw P M T u x s) K := by
  intro u
  induction u with
  | zero =>
    intro k x s J hk hx hJ
    refine ⟨J, x, (T_330_98 ..).trans (ci_f (by omega) ?_), hJ⟩
    rw [hJ.2.1]
    rfl
  | succ u ih =>
    intro k x s J hk hx hJ
    have j17 : J 82 17 = (s.2.1 : Int) := hJ.2.1
    have j3 : J 82 3 = (P : Int) := (hJ.1 _ _ (by omega) (by omega) (by omega) (by omega) (by omega)).trans e3
    have hr := nxs_r hx.1
    obtain ⟨p, hp, ep⟩ := pk_n hr.1 hP.1
    have jp := hJ.2.2.1 p hp
    by_cases q : (s.2.1 : Int) < T
    · have st : ∃ K, Run PG (Call PG (d + 1)) 330 98 [(2, 82), (0, x1), (0, x2), (0, x3), (0, T), (0, x), (0, (k : Int)), (9, 0), (9, 0)] [] (J, RF sp rt tt z.1, z) (0, 0) = Run PG (Call PG (d + 1)) 330 98 [(2, 82), (0, x1), (0, x2), (0, x3), (0, T), (0, nxsd x), (0, ((k + 1 : Nat) : Int)), (9, 0), (9, 0)] [] (K, RF sp rt tt z.1, z) (0, 0) ∧ SNb I P (if s.1 p = true then s else sad M p s) K := by
        by_cases c : s.1 p = true
        · rw [if_pos c]
          rw [if_pos c] at jp
          refine ⟨J, (T_330_98 ..).trans ?_, hJ⟩
          rw [j17, j3, nxs_b hx, ep, Int.toNat_natCast, jp]
          refine ci_t (by omega) (ci_t q ((if_neg (by omega)).trans (ci_t ⟨by omega, by omega⟩ (ci_f (by decide) ((T_330_158 ..).trans ?_)))))
          rw [w_n (by omega)]
        · rw [if_neg c]
          rw [if_neg c] at jp
          obtain ⟨K, e331, hK⟩ := SNb_add (d := d) (sp := sp) (rt := rt) (tt := tt) (z := z) hJ (p := p) hp hP.2 (by omega) hM eM
          refine ⟨K, (T_330_98 ..).trans ?_, hK⟩
          rw [j17, j3, nxs_b hx, ep, Int.toNat_natCast, jp]
          refine ci_t (by omega) (ci_t q ((if_neg (by omega)).trans (ci_t ⟨by omega, by omega⟩ (ci_t rfl ((if_neg (by omega)).trans (bd_t e331 ((T_330_158 ..).trans ?_)))))))
          rw [w_n (by omega)]
      obtain ⟨K, e1, hK⟩ := st
      obtain ⟨K2, x', e2, hK2⟩ := ih (k + 1) (nxsd x) _ K (by omega) hr hK
      rw [drw_1 q ep]
      exact ⟨K2, x', e1.trans e2, hK2⟩
    · rw [drw_0 q]
      refine ⟨J, x, (T_330_98 ..).trans ?_, hJ⟩
      rw [j17]
      exact ci_t (by omega) (ci_f q rfl)
theorem L_184 {P : Nat} {w : Nat → Int} {s : SND} {J : Nat → Nat → Int} (hP : P ≤ 12) (hJ : SNb I P s J) (e3 : I 82 3 = (P : Int)) (hw : ∀ k, k < P → J 157 k = w k) {x1 x2 x3 x4 x5 x6 : Int} : ∀ (u x : Nat) (b : Int), x + u = P → -1 ≤ b ∧ b < (P : Int) → Run PG (Call PG (d + 1)) 330 184 [(2, 82), (0, x1), (0, x2), (0, x3), (0, x4), (0, x5), (0, x6), (0, b), (0, (x : Int))] [] (J, RF sp rt tt z.1, z) (0, 0) = Run PG (Call PG (d + 1)) 330 184 [(2, 82), (0, x1), (0, x2), (0, x3), (0, x4), (0, x5), (0, x6), (0, wst s.1 w u x b), (0, (P : Int))] [] (J, RF sp rt tt z.1, z) (0, 0) := by
  have j3 : J 82 3 = (P : Int) := (hJ.1 _ _ (by omega) (by omega) (by omega) (by omega) (by omega)).trans e3
  intro u
  induction u with
  | zero =>
    intro x b hx hb
    rw [show x = P by omega]
    rfl
  | succ u ih =>
    intro x b hx hb
    have jp := hJ.2.2.1 x (by omega)
    refine (T_330_184 ..).trans ?_
    rw [j3, w_n (by omega), Int.toNat_natCast, wst_s, jp]
    refine ci_t (by omega) (ci_t ⟨by omega, by omega⟩ ?_)
    by_cases c : s.1 x = true
    · rw [if_pos c, if_pos c]
      exact ci_f (by decide) (ih (x + 1) b (by omega) hb)
    · rw [if_neg c, if_neg c]
      refine ci_t rfl ?_
      by_cases e : b = -1
      · rw [if_pos e]
        exact ci_t e (ih (x + 1) (x : Int) (by omega) ⟨by omega, by omega⟩)
      · rw [if_neg e]
        refine ci_f e (ci_t ⟨by omega, by omega⟩ (ci_t ⟨by omega, by omega⟩ ?_))
        rw [hw x (by omega), hw b.toNat (by omega)]
        by_cases f : w x ≤ w b.toNat
        · rw [if_pos f]
          exact ci_t f (ih (x + 1) b (by omega) hb)
        · rw [if_neg f]
          exact ci_f f (ih (x + 1) (x : Int) (by omega) ⟨by omega, by omega⟩)
theorem L_170 {P n : Nat} {M : Int} {w l : Nat → Int} (hP : P ≤ 12) (hn : n ≤ P) (hM : 1 ≤ M) (eM : I 82 19 = M) (e3 : I 82 3 = (P : Int)) (hw : ∀ k, k < P → I 157 k = w k) {x2 x3 x4 x5 x6 : Int} : ∀ (u : Nat) (s : SND) (J : Nat → Nat → Int) (x7 x8 : AV), dl x7 → dl x8 → s.2.1 + u = n → SOK P l s → SNb I P s J → ∃ K, Run PG (Call PG (d + 1)) 330 170 [(2, 82), (0, (n : Int)), (0, x2), (0, x3), (0, x4), (0, x5), (0, x6), x7, x8] [] (J, RF sp rt tt z.1, z) (0, 0) = some (some (0, x6), (K, RF sp rt tt z.1, z)) ∧ SNb I P (fil P M w u s) K := by
  intro u
  induction u with
  | zero =>
    intro s J x7 x8 h7 h8 hu hs hJ
    refine ⟨J, (T_330_170 _ _ _ _ _ _ _ _ _ _ _ _ _ _ h7 h8).trans ?_, hJ⟩
    rw [hJ.2.1]
    exact ci_f (by omega) rfl
  | succ u ih =>
    intro s J x7 x8 h7 h8 hu hs hJ
    have j3 : J 82 3 = (P : Int) := (hJ.1 _ _ (by omega) (by omega) (by omega) (by omega) (by omega)).trans e3
    obtain ⟨k, hk, fk⟩ := bc_fr P (show bc s.1 P < P by have := hs.1; omega)
    obtain ⟨q, e1, hq, gq⟩ := wst_ok (w := w) (g := s.1) P 0 (-1) (Nat.zero_add P) (Or.inl ⟨rfl, k, Nat.zero_le k, hk, fk⟩)
    have l184 := L_184 (d := d) (sp := sp) (rt := rt) (tt := tt) (z := z) (w := w) hP hJ e3 (fun k hk => (hJ.1 157 k (by omega) (by omega) (by omega) (by omega) (by omega)).trans (hw k hk)) (x1 := (n : Int)) (x2 := x2) (x3 := x3) (x4 := x4) (x5 := x5) (x6 := x6) P 0 (-1) (Nat.zero_add P) ⟨by omega, by omega⟩
    rw [e1] at l184
    obtain ⟨K, e331, hK⟩ := SNb_add (d := d) (sp := sp) (rt := rt) (tt := tt) (z := z) hJ (p := q) hq hP (by omega) hM eM
    obtain ⟨K2, e2, hK2⟩ := ih (sad M q s) K (0, (q : Int)) (0, (P : Int)) (dl0 _) (dl0 _) (by show s.2.1 + 1 + u = n; omega) (SOK_add hs hq gq) hK
    rw [fil_1 e1]
    refine ⟨K2, Eq.trans ?_ e2, hK2⟩
    refine (T_330_170 _ _ _ _ _ _ _ _ _ _ _ _ _ _ h7 h8).trans ?_
    rw [hJ.2.1]
    refine ci_t (by omega) (l184.trans ((T_330_184 ..).trans ?_))
    rw [j3]
    exact ci_f (by omega) (bd_t e331 (T_330_242 ..))
end DQ0

