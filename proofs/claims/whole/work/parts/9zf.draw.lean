/-! send: the draws and the worthiest, in both heaps -/
def nxsd (x : Int) : Int := Int.tmod (8121 * x + 28411) 134456
theorem nxs_r {x : Int} (h : 0 ≤ x) : 0 ≤ nxsd x ∧ nxsd x ≤ 134455 := by
  unfold nxsd
  rw [Int.tmod_eq_emod_of_nonneg (by omega)]
  omega
theorem nxs_a {x : Int} (h : 0 ≤ x ∧ x ≤ 134455) : Int.tmod (w32 (w32 (8121 * x) + 28411)) 134456 = nxsd x := by
  unfold nxsd
  rw [w32_of (x := 8121 * x) (by omega) (by omega), w32_of (x := 8121 * x + 28411) (by omega) (by omega)]
theorem nxs_b {x : Int} (h : 0 ≤ x ∧ x ≤ 134455) : w32 (Int.tmod (w64 (w64 (8121 * x) + 28411)) 134456) = nxsd x := by
  have r := nxs_r h.1
  rw [w64_of (x := 8121 * x) (by omega) (by omega), w64_of (x := 8121 * x + 28411) (by omega) (by omega)]
  exact w32_of (x := nxsd x) (by omega) (by omega)
theorem pk_n {x : Int} {P : Nat} (hx : 0 ≤ x) (hP : 1 ≤ P) : ∃ p : Nat, p < P ∧ Int.tmod x (P : Int) = (p : Int) := by
  have a := Int.tmod_nonneg (P : Int) hx
  have b := Int.tmod_lt_of_pos x (show (0 : Int) < (P : Int) by omega)
  generalize Int.tmod x (P : Int) = y at a b ⊢
  exact ⟨y.toNat, by omega, by omega⟩
/-- u rounds of draws -/
def drw (P : Nat) (M T : Int) : Nat → Int → SND → SND
  | 0, _, s => s
  | u + 1, x, s => if (s.2.1 : Int) < T then drw P M T u (nxsd x) (if s.1 (Int.tmod (nxsd x) (P : Int)).toNat = true then s else sad M (Int.tmod (nxsd x) (P : Int)).toNat s) else s
theorem drw_1 {P : Nat} {M T : Int} {u : Nat} {x : Int} {s : SND} {p : Nat} (q : (s.2.1 : Int) < T) (ep : Int.tmod (nxsd x) (P : Int) = (p : Int)) : drw P M T (u + 1) x s = drw P M T u (nxsd x) (if s.1 p = true then s else sad M p s) := by
  show (if (s.2.1 : Int) < T then drw P M T u (nxsd x) (if s.1 (Int.tmod (nxsd x) (P : Int)).toNat = true then s else sad M (Int.tmod (nxsd x) (P : Int)).toNat s) else s) = _
  rw [if_pos q, ep, Int.toNat_natCast]
theorem drw_0 {P : Nat} {M T : Int} {u : Nat} {x : Int} {s : SND} (q : ¬ (s.2.1 : Int) < T) : drw P M T (u + 1) x s = s := if_neg q
/-- the worthiest of those not given, from x on -/
def wst (g : Nat → Bool) (w : Nat → Int) : Nat → Nat → Int → Int
  | 0, _, b => b
  | u + 1, x, b => wst g w u (x + 1) (if g x = true then b else if b = -1 then (x : Int) else if w x ≤ w b.toNat then b else (x : Int))
theorem wst_s {g : Nat → Bool} {w : Nat → Int} {u x : Nat} {b : Int} : wst g w (u + 1) x b = wst g w u (x + 1) (if g x = true then b else if b = -1 then (x : Int) else if w x ≤ w b.toNat then b else (x : Int)) := rfl
theorem wst_ok {g : Nat → Bool} {w : Nat → Int} {P : Nat} : ∀ (u x : Nat) (b : Int), x + u = P → ((b = -1 ∧ ∃ k, x ≤ k ∧ k < P ∧ g k = false) ∨ ∃ q : Nat, b = (q : Int) ∧ q < P ∧ g q = false) → ∃ q : Nat, wst g w u x b = (q : Int) ∧ q < P ∧ g q = false := by
  intro u
  induction u with
  | zero =>
    intro x b hx h
    rcases h with ⟨_, k, h1, h2, _⟩ | h
    · omega
    · exact h
  | succ u ih =>
    intro x b hx h
    rw [wst_s]
    by_cases c : g x = true
    · rw [if_pos c]
      refine ih (x + 1) b (by omega) ?_
      rcases h with ⟨h0, k, h1, h2, h3⟩ | h
      · refine Or.inl ⟨h0, k, ?_, h2, h3⟩
        by_cases e : k = x
        · rw [e, c] at h3; cases h3
        · omega
      · exact Or.inr h
    · rw [if_neg c]
      have c' : g x = false := eq_false_of_ne_true c
      by_cases e : b = -1
      · rw [if_pos e]
        exact ih (x + 1) _ (by omega) (Or.inr ⟨x, rfl, by omega, c'⟩)
      · rw [if_neg e]
        by_cases f : w x ≤ w b.toNat
        · rw [if_pos f]
          refine ih (x + 1) b (by omega) ?_
          rcases h with ⟨h0, _⟩ | h
          · exact absurd h0 e
          · exact Or.inr h
        · rw [if_neg f]
          exact ih (x + 1) _ (by omega) (Or.inr ⟨x, rfl, by omega, c'⟩)
/-- the rest by worth -/
def fil (P : Nat) (M : Int) (w : Nat → Int) : Nat → SND → SND
  | 0, s => s
  | u + 1, s => fil P M w u (sad M (wst s.1 w P 0 (-1)).toNat s)
theorem fil_1 {P : Nat} {M : Int} {w : Nat → Int} {u : Nat} {s : SND} {q : Nat} (h : wst s.1 w P 0 (-1) = (q : Int)) : fil P M w (u + 1) s = fil P M w u (sad M q s) := by
  show fil P M w u (sad M (wst s.1 w P 0 (-1)).toNat s) = _
  rw [h, Int.toNat_natCast]
theorem bc_st {f : Nat → Bool} {p : Nat} (hf : f p = false) : ∀ n, bc (fun k => if k = p then true else f k) n = bc f n + (if p < n then 1 else 0)
  | 0 => rfl
  | n + 1 => by
    have ih := bc_st hf n
    by_cases q : n = p
    · subst q
      rw [if_neg (by omega)] at ih
      rw [bc_1 (f := fun k => if k = n then true else f k) (if_pos rfl), bc_0 (f := f) (by rw [hf]; decide), ih, if_pos (by omega)]
    · have e : (if p < n + 1 then 1 else 0) = (if p < n then (1 : Nat) else 0) := by
        by_cases r : p < n
        · rw [if_pos r, if_pos (by omega)]
        · rw [if_neg r, if_neg (by omega)]
      rw [e]
      by_cases r : f n = true
      · rw [bc_1 (f := fun k => if k = p then true else f k) (by show (if n = p then true else f n) = true; rw [if_neg q, r]), bc_1 r, ih]
        omega
      · rw [bc_0 (f := fun k => if k = p then true else f k) (by show ¬ (if n = p then true else f n) = true; rw [if_neg q]; exact r), bc_0 r, ih]
theorem bc_fr {f : Nat → Bool} : ∀ n, bc f n < n → ∃ k, k < n ∧ f k = false
  | 0, h => absurd h (Nat.not_lt_zero _)
  | n + 1, h => by
    by_cases r : f n = true
    · rw [bc_1 r] at h
      obtain ⟨k, h1, h2⟩ := bc_fr (f := f) n (by omega)
      exact ⟨k, by omega, h2⟩
    · exact ⟨n, by omega, eq_false_of_ne_true r⟩
/-- as many as given; past the pits nothing has changed -/
def SOK (P : Nat) (l : Nat → Int) (s : SND) : Prop := s.2.1 = bc s.1 P ∧ ∀ p, P ≤ p → s.2.2.1 p = l p
theorem SOK_add {P : Nat} {l : Nat → Int} {s : SND} {M : Int} {p : Nat} (h : SOK P l s) (hp : p < P) (hf : s.1 p = false) : SOK P l (sad M p s) := by
  refine ⟨?_, fun k hk => ?_⟩
  · show s.2.1 + 1 = bc (fun k => if k = p then true else s.1 k) P
    rw [bc_st hf, if_pos hp, h.1]
  · show ud s.2.2.1 p _ k = _
    rw [ud_ne (by omega)]
    exact h.2 k hk
theorem drw_ok {P : Nat} {M T : Int} {l : Nat → Int} (hP : 1 ≤ P) : ∀ (u : Nat) (x : Int) (s : SND), 0 ≤ x → (s.2.1 : Int) ≤ T → SOK P l s → SOK P l (drw P M T u x s) ∧ ((drw P M T u x s).2.1 : Int) ≤ T
  | 0, _, _, _, hT, h => ⟨h, hT⟩
  | u + 1, x, s, hx, hT, h => by
    have hr := nxs_r hx
    obtain ⟨p, hp, ep⟩ := pk_n hr.1 hP
    by_cases q : (s.2.1 : Int) < T
    · rw [drw_1 q ep]
      by_cases c : s.1 p = true
      · rw [if_pos c]
        exact drw_ok hP u (nxsd x) s hr.1 hT h
      · rw [if_neg c]
        exact drw_ok hP u (nxsd x) _ hr.1 (by show ((s.2.1 + 1 : Nat) : Int) ≤ T; omega) (SOK_add h hp (eq_false_of_ne_true c))
    · rw [drw_0 q]
      exact ⟨h, hT⟩
theorem fil_ok {P n : Nat} {M : Int} {w l : Nat → Int} (hn : n ≤ P) : ∀ (u : Nat) (s : SND), s.2.1 + u = n → SOK P l s → SOK P l (fil P M w u s)
  | 0, _, _, h => h
  | u + 1, s, hu, h => by
    obtain ⟨k, hk, fk⟩ := bc_fr P (show bc s.1 P < P by have := h.1; omega)
    obtain ⟨q, e1, hq, gq⟩ := wst_ok (w := w) (g := s.1) P 0 (-1) (Nat.zero_add P) (Or.inl ⟨rfl, k, Nat.zero_le k, hk, fk⟩)
    rw [fil_1 e1]
    exact fil_ok hn u _ (by show s.2.1 + 1 + u = n; omega) (SOK_add h hq gq)
section DR0
variable {d : Nat} {I : Nat → Nat → Int} {sp rt : Nat} {tt : Nat → Nat} {z : Zs}
theorem S_188s {s : SND} {J : Nat → Nat → Int} (h : SNa I s J) {p : Nat} (hp : p < 12) : Call PG (d + 1) 188 [(2, 72), (0, (p : Int))] (J, RF sp rt tt z.1, z) = some (some (0, bz (s.1 p = true)), (J, RF sp rt tt z.1, z)) := by
  obtain ⟨v, hv, ev, bv⟩ := h.2.2.1
  refine (K_188 ..).trans ((T_188_0 ..).trans ?_)
  rw [ev]
  by_cases c : s.1 p = true
  · rw [bz_t c]
    refine ci_f (fun w => ?_) rfl
    rw [bit32 hv hp, bv p hp, c] at w
    cases w
  · rw [bz_f c]
    refine ci_t ((bit32 hv hp).2 ?_) rfl
    rw [bv p hp]
    exact eq_false_of_ne_true c
theorem L_187 {P : Nat} {M T : Int} (hP : 1 ≤ P ∧ P ≤ 12) (hT : T ≤ (P : Int)) (hM : 1 ≤ M) (eM : I 72 2 = M) {x2 : Int} : ∀ (u k : Nat) (x : Int) (s : SND) (J : Nat → Nat → Int) (x6 : AV), dl x6 → k + u = 60 → 0 ≤ x ∧ x ≤ 134455 → SNa I s J → ∃ K, Run PG (Call PG (d + 1)) 187 6 [(2, 72), (0, T), (0, x2), (0, (P : Int)), (0, x), (0, (k : Int)), x6] [] (J, RF sp rt tt z.1, z) (0, 0) = some (none, (K, RF sp rt tt z.1, z)) ∧ SNa I (drw P M T u x s) K := by
  intro u
  induction u with
  | zero =>
    intro k x s J x6 h6 hk hx hJ
    exact ⟨J, (T_187_6 _ _ _ _ _ _ _ _ _ _ _ _ h6).trans (ci_f (by omega) rfl), hJ⟩
  | succ u ih =>
    intro k x s J x6 h6 hk hx hJ
    have j0 : J 72 0 = (s.2.1 : Int) := hJ.2.1
    have hr := nxs_r hx.1
    obtain ⟨p, hp, ep⟩ := pk_n hr.1 hP.1
    have b := S_188s (d := d) (sp := sp) (rt := rt) (tt := tt) (z := z) hJ (p := p) (by omega)
    by_cases q : (s.2.1 : Int) < T
    · have st : ∃ K, Run PG (Call PG (d + 1)) 187 6 [(2, 72), (0, T), (0, x2), (0, (P : Int)), (0, x), (0, (k : Int)), x6] [] (J, RF sp rt tt z.1, z) (0, 0) = Run PG (Call PG (d + 1)) 187 6 [(2, 72), (0, T), (0, x2), (0, (P : Int)), (0, nxsd x), (0, ((k + 1 : Nat) : Int)), (0, (p : Int))] [] (K, RF sp rt tt z.1, z) (0, 0) ∧ SNa I (if s.1 p = true then s else sad M p s) K := by
        by_cases c : s.1 p = true
        · rw [if_pos c]
          refine ⟨J, (T_187_6 _ _ _ _ _ _ _ _ _ _ _ _ h6).trans ?_, hJ⟩
          rw [j0, nxs_a hx, ep]
          refine ci_t (by omega) (ci_t q (ci_f (by omega) ((if_neg (by omega)).trans (bd_t b ?_))))
          refine (T_187_52 ..).trans (ci_bf c ((T_187_61 ..).trans ?_))
          rw [w_n (by omega)]
        · rw [if_neg c]
          obtain ⟨K, e189, hK⟩ := SNa_add (d := d) (sp := sp) (rt := rt) (tt := tt) (z := z) hJ (p := p) (by omega) (by omega) hM eM
          refine ⟨K, (T_187_6 _ _ _ _ _ _ _ _ _ _ _ _ h6).trans ?_, hK⟩
          rw [j0, nxs_a hx, ep]
          refine ci_t (by omega) (ci_t q (ci_f (by omega) ((if_neg (by omega)).trans (bd_t b ?_))))
          refine (T_187_52 ..).trans (ci_bt c (bd_t e189 ((T_187_61 ..).trans ?_)))
          rw [w_n (by omega)]
      obtain ⟨K, e1, hK⟩ := st
      obtain ⟨K2, e2, hK2⟩ := ih (k + 1) (nxsd x) _ K (0, (p : Int)) (dl0 _) (by omega) hr hK
      rw [drw_1 q ep]
      exact ⟨K2, e1.trans e2, hK2⟩
    · rw [drw_0 q]
      refine ⟨J, (T_187_6 _ _ _ _ _ _ _ _ _ _ _ _ h6).trans ?_, hJ⟩
      rw [j0]
      exact ci_t (by omega) (ci_f q rfl)
theorem L_190 {P : Nat} {w : Nat → Int} {s : SND} {J : Nat → Nat → Int} (hP : P ≤ 12) (hJ : SNa I s J) (hw : ∀ k, k < P → J 73 k = w k) : ∀ (u x : Nat) (b : Int), x + u = P → -1 ≤ b ∧ b < (P : Int) → Run PG (Call PG (d + 1)) 190 4 [(2, 72), (0, (P : Int)), (0, b), (0, (x : Int))] [] (J, RF sp rt tt z.1, z) (0, 0) = some (some (0, wst s.1 w u x b), (J, RF sp rt tt z.1, z)) := by
  intro u
  induction u with
  | zero =>
    intro x b hx hb
    exact (T_190_4 ..).trans (ci_f (by omega) rfl)
  | succ u ih =>
    intro x b hx hb
    have b188 := S_188s (d := d) (sp := sp) (rt := rt) (tt := tt) (z := z) hJ (p := x) (by omega)
    refine (T_190_4 ..).trans (ci_t (by omega) (bd_t b188 ((T_190_14 ..).trans ?_)))
    rw [w_n (by omega), Int.toNat_natCast, wst_s]
    by_cases c : s.1 x = true
    · rw [if_pos c]
      exact ci_bf c (ih (x + 1) b (by omega) hb)
    · rw [if_neg c]
      refine ci_bt c ?_
      by_cases e : b = -1
      · rw [if_pos e]
        exact ci_t e (ih (x + 1) (x : Int) (by omega) ⟨by omega, by omega⟩)
      · rw [if_neg e]
        refine ci_f e (ci_t ⟨by omega, by omega⟩ (ci_t ⟨by omega, by omega⟩ ?_))
        rw [hw x (by omega), hw b.toNat (by omega)]
        by_cases f : w x ≤ w b.toNat
        · rw [if_pos f]
          exact ci_t f (ih (x + 1) b (by omega) hb)
        · rw [if_neg f]
          exact ci_f f (ih (x + 1) (x : Int) (by omega) ⟨by omega, by omega⟩)
theorem L_186 {P n : Nat} {M : Int} {w l : Nat → Int} (hP : P ≤ 12) (hn : n ≤ P) (hM : 1 ≤ M) (eM : I 72 2 = M) (hw : ∀ k, k < P → I 73 k = w k) {x2 x3 x5 : Int} : ∀ (u : Nat) (s : SND) (J : Nat → Nat → Int), s.2.1 + u = n → SOK P l s → SNa I s J → ∃ K, Run PG (Call PG (d + 2)) 186 28 [(2, 72), (0, (n : Int)), (0, x2), (0, x3), (0, (P : Int)), (0, x5), (0, (s.2.1 : Int))] [] (J, RF sp rt tt z.1, z) (0, 0) = some (some (0, x5), (K, RF sp rt tt z.1, z)) ∧ SNa I (fil P M w u s) K := by
  intro u
  induction u with
  | zero =>
    intro s J hu hs hJ
    exact ⟨J, (T_186_28 ..).trans (ci_f (by omega) rfl), hJ⟩
  | succ u ih =>
    intro s J hu hs hJ
    obtain ⟨k, hk, fk⟩ := bc_fr P (show bc s.1 P < P by have := hs.1; omega)
    obtain ⟨q, e1, hq, gq⟩ := wst_ok (w := w) (g := s.1) P 0 (-1) (Nat.zero_add P) (Or.inl ⟨rfl, k, Nat.zero_le k, hk, fk⟩)
    have l190 := L_190 (d := d) (sp := sp) (rt := rt) (tt := tt) (z := z) (w := w) hP hJ (fun k hk => (hJ.1 73 k (by omega) (by omega)).trans (hw k hk)) P 0 (-1) (Nat.zero_add P) ⟨by omega, by omega⟩
    rw [e1] at l190
    have e190 : Call PG (d + 2) 190 [(2, 72), (0, (P : Int))] (J, RF sp rt tt z.1, z) = some (some (0, (q : Int)), (J, RF sp rt tt z.1, z)) := (K_190 ..).trans ((T_190_0 ..).trans l190)
    obtain ⟨K, e189, hK⟩ := SNa_add (d := d + 1) (sp := sp) (rt := rt) (tt := tt) (z := z) hJ (p := q) (by omega) (by omega) hM eM
    obtain ⟨K2, e2, hK2⟩ := ih (sad M q s) K (by show s.2.1 + 1 + u = n; omega) (SOK_add hs hq gq) hK
    rw [fil_1 e1]
    refine ⟨K2, Eq.trans ?_ e2, hK2⟩
    refine (T_186_28 ..).trans (ci_t (by omega) (bd_t e190 ((T_186_41 ..).trans (bd_t e189 ((T_186_44 ..).trans ?_)))))
    rw [w_n (by omega)]
    rfl
theorem S_186 {P n : Nat} {M T x : Int} {w l : Nat → Int} (hP : 1 ≤ P ∧ P ≤ 12) (hn : n ≤ P) (hT : 0 ≤ T ∧ T ≤ (n : Int)) (hM : 1 ≤ M) (eM : I 72 2 = M) (hx : 0 ≤ x ∧ x ≤ 134455) (hw : ∀ k, k < P → I 73 k = w k) {s : SND} (h0 : s.2.1 = 0) (hg : ∀ k, s.1 k = false) (hl : ∀ k, k < 12 → I 76 k = s.2.2.1 k) (hs : SOK P l s) : ∃ K, Call PG (d + 3) 186 [(2, 72), (0, (n : Int)), (0, T), (0, x), (0, (P : Int))] (I, RF sp rt tt z.1, z) = some (some (0, ((drw P M T 60 x s).2.1 : Int)), (K, RF sp rt tt z.1, z)) ∧ SNa I (fil P M w (n - (drw P M T 60 x s).2.1) (drw P M T 60 x s)) K := by
  have hJ : SNa I s (up2 (up2 I 72 6 0) 72 0 0) := by
    refine ⟨fun a j q1 q2 => ?_, ?_, ⟨0, by decide, ?_, fun k hk => ?_⟩, fun k hk => ?_, fun k hk => absurd hk (by omega)⟩
    · rw [up2_def, if_neg (by omega), up2_def, if_neg (by omega)]
    · rw [h0]; exact up2_eq
    · rw [up2_def, if_neg (by omega)]; exact up2_eq
    · rw [hg k]; exact Nat.zero_testBit k
    · rw [up2_def, if_neg (by omega), up2_def, if_neg (by omega)]
      exact hl k hk
  obtain ⟨K1, e187, hK1⟩ := L_187 (d := d) (sp := sp) (rt := rt) (tt := tt) (z := z) (T := T) hP (by omega) hM eM (x2 := x) 60 0 x s _ (9, 0) dl9 (by omega) hx hJ
  obtain ⟨o1, o2⟩ := drw_ok (M := M) (T := T) hP.1 60 x s hx.1 (by omega) hs
  obtain ⟨K, e186, hK⟩ := L_186 (d := d) (sp := sp) (rt := rt) (tt := tt) (z := z) hP.2 hn hM eM hw (x2 := T) (x3 := x) (x5 := ((drw P M T 60 x s).2.1 : Int)) (n - (drw P M T 60 x s).2.1) _ K1 (by omega) o1 hK1
  refine ⟨K, ?_, hK⟩
  have c187 : Call PG (d + 2) 187 [(2, 72), (0, T), (0, x), (0, (P : Int))] (up2 (up2 I 72 6 0) 72 0 0, RF sp rt tt z.1, z) = some (none, (K1, RF sp rt tt z.1, z)) := (K_187 ..).trans ((T_187_0 ..).trans e187)
  refine (K_186 ..).trans ((T_186_0 ..).trans (bd_t c187 ((T_186_18 ..).trans ?_)))
  rw [hK1.2.1]
  exact e186
end DR0

