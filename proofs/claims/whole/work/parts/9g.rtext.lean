/-! texts: the second text -/
theorem KR_m {t m : Nat} {I J : Nat → Nat → Int} {co ar co' ar' : Nat → Int} {u u' : Nat} {c : CLM} (h : KR t m I co ar u c) (f : FRR t (m + 1) I J) (hu : u ≤ u') (hc : ∀ x, x < 160 * t + u → co' x = co x ∧ ar' x = ar x) : KR t m J co' ar' u' c := by
  have e : ∀ a, 99 ≤ a → a ≤ 105 → J a (12 * t + m) = I a (12 * t + m) := fun a _ _ => f a _ (by omega) (by omega)
  obtain ⟨h1, h2, h3, h4, h5⟩ := h
  refine ⟨(e _ (by decide) (by decide)).trans h1, fun q => (e _ (by decide) (by decide)).trans (h2 q), fun q => ⟨(e _ (by decide) (by decide)).trans (h3 q).1, (e _ (by decide) (by decide)).trans (h3 q).2⟩, fun q => ?_, fun q => by rw [e _ (by decide) (by decide), e _ (by decide) (by decide)]; exact h5 q⟩
  obtain ⟨g1, g2, a, b, g3, g4, g5, g6⟩ := h4 q
  exact ⟨(e _ (by decide) (by decide)).trans g1, (e _ (by decide) (by decide)).trans g2, a, b, (e _ (by decide) (by decide)).trans g3, (e _ (by decide) (by decide)).trans g4, by omega, Cr_m g6 (fun x _ hx => hc (160 * t + x) (by omega))⟩
def KRL (t : Nat) (I : Nat → Nat → Int) (co ar : Nat → Int) (u : Nat) : Nat → List CLM → Prop
  | _, [] => True
  | m, c :: l => KR t m I co ar u c ∧ KRL t I co ar u (m + 1) l
section RT0
variable {d : Nat} {I : Nat → Nat → Int} {sp rt : Nat} {tt : Nat → Nat} {z : Zs} {n t m : Nat} {p cs sd : Nat} {bad op dn bh : Int} {co ar st : Nat → Int} {x1 x2 x3 x4 x5 : Int}
theorem T105x {e : Int} (he : e < 0) : Run PG (Call PG (d + 9)) 216 105 [(2, 82), (0, x1), (0, x2), (0, x3), (0, x4), (0, x5), (9, 0)] [] (HR I p e cs op sd dn bh co ar st, RF sp rt tt z.1, z) (0, 0) = some (some (0, e), (HR I p e cs op sd dn bh co ar st, RF sp rt tt z.1, z)) := by
  refine (T_216_105 ..).trans ?_
  rw [hr_bad]
  by_cases c : x5 = 0
  · exact ci_t c (ci_t he rfl)
  · refine ci_f c (bd_t S_217 ?_)
    refine (T_216_114 ..).trans ?_
    rw [hr_bad, bz_f (by omega)]
    exact ci_t rfl (ci_t he rfl)
theorem L_216 : ∀ (k m p cs sd : Nat) (op dn bh : Int) (co ar st : Nat → Int) (I : Nat → Nat → Int), RX I n t → x4 = (n : Int) → I 82 48 = (m : Int) → k + m = 12 → p ≤ n → cs ≤ p → match RDL (qc (I 83) n) n k p with
    | .inl e => ∃ (J : Nat → Nat → Int) (p' cs' sd' : Nat) (op' dn' bh' : Int) (co' ar' st' : Nat → Int), Run PG (Call PG (d + 9)) 216 105 [(2, 82), (0, x1), (0, x2), (0, x3), (0, x4), (0, 1), (9, 0)] [] (HR I p 0 cs op sd dn bh co ar st, RF sp rt tt z.1, z) (0, 0) = some (some (0, e), (HR J p' e cs' op' sd' dn' bh' co' ar' st', RF sp rt tt z.1, z)) ∧ FRR t m I J ∧ ∀ x, x < 160 * t → co' x = co x ∧ ar' x = ar x
    | .inr l => ∃ (J : Nat → Nat → Int) (p' cs' sd' : Nat) (op' dn' bh' : Int) (co' ar' st' : Nat → Int), Run PG (Call PG (d + 9)) 216 105 [(2, 82), (0, x1), (0, x2), (0, x3), (0, x4), (0, 1), (9, 0)] [] (HR I p 0 cs op sd dn bh co ar st, RF sp rt tt z.1, z) (0, 0) = Run PG (Call PG (d + 9)) 216 105 [(2, 82), (0, x1), (0, x2), (0, x3), (0, x4), (0, 0), (9, 0)] [] (HR J p' 0 cs' op' sd' dn' bh' co' ar' st', RF sp rt tt z.1, z) (0, 0) ∧ FRR t m I J ∧ (∀ x, x < 160 * t + cs → co' x = co x ∧ ar' x = ar x) ∧ KRL t J co' ar' 160 m l ∧ J 82 48 = (m : Int) + l.length := by
  intro k
  induction k with
  | zero =>
    intro m p cs sd op dn bh co ar st I h hx hm hk hp hcs
    have hq := qc_OQ (I 83) n
    obtain ⟨J, p1, cs1, sd1, bad1, op1, dn1, bh1, co1, ar1, st1, e1, fJ, oc⟩ := R_218 (d := d) (op := op) (sd := sd) (dn := dn) (bh := bh) (co := co) (ar := ar) (st := st) (sp := sp) (rt := rt) (tt := tt) (z := z) h hm (by omega) hp hcs
    rw [if_pos (by omega)] at oc
    obtain ⟨rfl, ag⟩ := oc
    have hneg : (if isL (qc (I 83) n p) then fau 4 p else fau 1 p) < 0 := by
      split <;> exact fau_neg (by decide) _
    have k1 : Run PG (Call PG (d + 9)) 216 105 [(2, 82), (0, x1), (0, x2), (0, x3), (0, x4), (0, 1), (9, 0)] [] (HR I p 0 cs op sd dn bh co ar st, RF sp rt tt z.1, z) (0, 0) = some (some (0, (if isL (qc (I 83) n p) then fau 4 p else fau 1 p)), (HR J p1 (if isL (qc (I 83) n p) then fau 4 p else fau 1 p) cs1 op1 sd1 dn1 bh1 co1 ar1 st1, RF sp rt tt z.1, z)) := by
      refine (T_216_105 ..).trans (ci_f (by decide) (bd_t S_217 ?_))
      refine (T_216_114 ..).trans ?_
      rw [bz_t rfl]
      refine ci_f (by decide) (bd_t e1 ?_)
      refine (T_216_121 ..).trans (bd_t S_217 ?_)
      refine (T_216_125 ..).trans ?_
      rw [bz_f (by omega)]
      exact ci_t rfl (ci_t rfl (T105x hneg))
    unfold RDL
    exact ⟨J, p1, cs1, sd1, op1, dn1, bh1, co1, ar1, st1, k1, fJ, ag⟩
  | succ k ih =>
    intro m p cs sd op dn bh co ar st I h hx hm hk hp hcs
    have hq := qc_OQ (I 83) n
    have hn := h.2.1
    obtain ⟨J, p1, cs1, sd1, bad1, op1, dn1, bh1, co1, ar1, st1, e1, fJ, oc⟩ := R_218 (d := d) (op := op) (sd := sd) (dn := dn) (bh := bh) (co := co) (ar := ar) (st := st) (sp := sp) (rt := rt) (tt := tt) (z := z) h hm (by omega) hp hcs
    rw [if_neg (by omega)] at oc
    have k1 : Run PG (Call PG (d + 9)) 216 105 [(2, 82), (0, x1), (0, x2), (0, x3), (0, x4), (0, 1), (9, 0)] [] (HR I p 0 cs op sd dn bh co ar st, RF sp rt tt z.1, z) (0, 0) = Run PG (Call PG (d + 9)) 216 125 [(2, 82), (0, x1), (0, x2), (0, x3), (0, x4), (0, 1), (9, 0)] [(0, bz (bad1 = 0))] (HR J p1 bad1 cs1 op1 sd1 dn1 bh1 co1 ar1 st1, RF sp rt tt z.1, z) (0, 0) := by
      refine (T_216_105 ..).trans (ci_f (by decide) (bd_t S_217 ?_))
      refine (T_216_114 ..).trans ?_
      rw [bz_t rfl]
      refine ci_f (by decide) (bd_t e1 ?_)
      exact (T_216_121 ..).trans (bd_t S_217 rfl)
    have hok := CLAUSE_ok hq p
    unfold RDL
    cases hc : CLAUSE (qc (I 83) n) p with
    | inl e0 =>
      rw [hc] at oc
      obtain ⟨rfl, ag⟩ := oc
      have hneg := hok.1 _ hc
      refine ⟨J, p1, cs1, sd1, op1, dn1, bh1, co1, ar1, st1, k1.trans ?_, fJ, ag⟩
      refine (T_216_125 ..).trans ?_
      rw [bz_f (by omega)]
      exact ci_t rfl (ci_t rfl (T105x hneg))
    | inr w =>
      obtain ⟨j, c⟩ := w
      rw [hc] at oc
      obtain ⟨rfl, rfl, o1, o2, o3, o4⟩ := oc
      have h1 := RX_f h fJ
      have b1 := FRR_B fJ
      rw [bz_t rfl] at k1
      dsimp only
      have e46 : HR J p1 0 cs1 op1 sd1 dn1 bh1 co1 ar1 st1 82 46 = (n : Int) := (hr_o (Or.inr (by decide)) (by decide)).trans h1.1
      by_cases c1 : n ≤ p1
      · rw [if_pos c1]
        refine ⟨J, p1, cs1, sd1, op1, dn1, bh1, co1, ar1, st1, k1.trans ?_, fJ, o2, ⟨KR_m o3 FRR_r (by omega) (fun _ _ => ⟨rfl, rfl⟩), trivial⟩, o4⟩
        refine (T_216_125 ..).trans ?_
        rw [hr_p, e46]
        exact ci_f (by decide) (ci_f (by omega) (ci_t rfl rfl))
      · rw [if_neg c1]
        have s239 := S_239 (d := d + 7) (p := p1) (cs := cs1) (op := op1) (sd := sd1) (dn := dn1) (bh := bh1) (co := co1) (ar := ar1) (st := st1) (sp := sp) (rt := rt) (tt := tt) (z := z) h1 (by omega) (c := 59) (by decide)
        rw [b1] at s239
        have k2 : Run PG (Call PG (d + 9)) 216 105 [(2, 82), (0, x1), (0, x2), (0, x3), (0, x4), (0, 1), (9, 0)] [] (HR I p 0 cs op sd dn bh co ar st, RF sp rt tt z.1, z) (0, 0) = Run PG (Call PG (d + 9)) 216 105 [(2, 82), (0, x1), (0, x2), (0, x3), (0, x4), (0, 1), (9, 0)] [] (HR J (p1 + 1) (if qc (I 83) n p1 = 59 then 0 else fau 1 p1) cs1 op1 sd1 dn1 bh1 co1 ar1 st1, RF sp rt tt z.1, z) (0, 0) := by
          refine k1.trans ((T_216_125 ..).trans ?_)
          rw [hr_p, e46]
          refine ci_f (by decide) (ci_t (by omega) (ci_f (by decide) (bd_t s239 ?_)))
          exact T_216_157 ..
        by_cases c2 : qc (I 83) n p1 = 59
        · rw [if_pos c2] at k2 ⊢
          have ih' := ih (m + 1) (p1 + 1) cs1 sd1 op1 dn1 bh1 co1 ar1 st1 J h1 hx o4 (by omega) (by omega) (by omega)
          rw [b1] at ih'
          cases hr : RDL (qc (I 83) n) n k (p1 + 1) with
          | inl e0 =>
            rw [hr] at ih'
            obtain ⟨J2, p2, cs2, sd2, op2, dn2, bh2, co2, ar2, st2, e2, f2, ag⟩ := ih'
            exact ⟨J2, p2, cs2, sd2, op2, dn2, bh2, co2, ar2, st2, k2.trans e2, FRR_t fJ (FRR_le f2 (by omega)), fun x hx => ⟨(ag x hx).1.trans (o2 x (by omega)).1, (ag x hx).2.trans (o2 x (by omega)).2⟩⟩
          | inr l =>
            rw [hr] at ih'
            obtain ⟨J2, p2, cs2, sd2, op2, dn2, bh2, co2, ar2, st2, e2, f2, ag, kl, el⟩ := ih'
            refine ⟨J2, p2, cs2, sd2, op2, dn2, bh2, co2, ar2, st2, k2.trans e2, FRR_t fJ (FRR_le f2 (by omega)), fun x hx => ⟨(ag x (by omega)).1.trans (o2 x hx).1, (ag x (by omega)).2.trans (o2 x hx).2⟩, ⟨KR_m o3 f2 (by omega) ag, kl⟩, ?_⟩
            rw [el]
            show ((m + 1 : Nat) : Int) + l.length = (m : Int) + ((l.length + 1 : Nat) : Int)
            omega
        · rw [if_neg c2] at k2 ⊢
          exact ⟨J, p1 + 1, cs1, sd1, op1, dn1, bh1, co1, ar1, st1, k2.trans (T105x (fau_neg (by decide) _)), fJ, fun x hx => o2 x (by omega)⟩
theorem HR_self {s : Nat} (h51 : I 82 51 = (s : Int)) {x : Int} : up2 (up2 (up2 (up2 (up2 (up2 I 82 1 0) 82 45 0) 82 46 x) 82 47 0) 82 48 0) 82 49 0 = HR (up2 (up2 (up2 I 82 1 0) 82 46 x) 82 48 0) 0 0 0 (I 82 50) s (I 82 52) (I 82 53) (I 106) (I 107) (I 108) := by
  funext a j
  by_cases c : a = 82
  · subst c
    by_cases c45 : j = 45
    · subst c45; rw [hr_p]; simp (disch := decide) only [up2_nj, up2_eq]; rfl
    · by_cases c47 : j = 47
      · subst c47; rw [hr_bad]; simp (disch := decide) only [up2_nj, up2_eq]
      · by_cases c49 : j = 49
        · subst c49; rw [hr_cs]; simp (disch := decide) only [up2_nj, up2_eq]; rfl
        · by_cases c50 : j = 50
          · subst c50; rw [hr_op]; simp (disch := decide) only [up2_nj]
          · by_cases c51 : j = 51
            · subst c51; rw [hr_sd]; simp (disch := decide) only [up2_nj]; exact h51
            · by_cases c52 : j = 52
              · subst c52; rw [hr_dn]; simp (disch := decide) only [up2_nj]
              · by_cases c53 : j = 53
                · subst c53; rw [hr_bh]; simp (disch := decide) only [up2_nj]
                · rw [hr_o (Or.inr (by omega)) (by decide), up2_nj (by omega)]
                  by_cases c48 : j = 48
                  · subst c48; rw [up2_eq, up2_eq]
                  · rw [up2_nj c48, up2_nj c48, up2_nj (by omega)]
                    by_cases c46 : j = 46
                    · subst c46; rw [up2_eq, up2_eq]
                    · rw [up2_nj c46, up2_nj c46, up2_nj (by omega)]
  · rw [up2_ne c, up2_ne c, up2_ne c, up2_ne c, up2_ne c, up2_ne c]
    by_cases d1 : a = 106
    · subst d1; rw [hr_co]
    · by_cases d2 : a = 107
      · subst d2; rw [hr_ar]
      · by_cases d3 : a = 108
        · subst d3; rw [hr_st]
        · rw [hr_o (Or.inl c) ⟨d1, d2, d3⟩, up2_ne c, up2_ne c, up2_ne c]
/-- what text of the second leaves as it was -/
def FRX (t : Nat) (I J : Nat → Nat → Int) : Prop := ∀ a j, ¬ (a = 82 ∧ (j = 1 ∨ j = 5 ∨ (45 ≤ j ∧ j ≤ 53))) → ¬ (99 ≤ a ∧ a ≤ 105 ∧ 12 * t ≤ j) → ¬ (94 ≤ a ∧ a ≤ 97 ∧ j = t) → ¬ (a = 98 ∧ 160 * t ≤ j) → ¬ ((a = 106 ∨ a = 107) ∧ 160 * t ≤ j) → ¬ a = 108 → J a j = I a j
/-- the copy of the bytes -/
def cpy (I : Nat → Nat → Int) (t k : Nat) : Nat → Int := fun j => if 160 * t ≤ j ∧ j < 160 * t + k then Int.bmod (I 83 (j - 160 * t)) 256 else I 98 j
theorem cpy_s {k : Nat} : ud (cpy I t k) (160 * t + k) (Int.bmod (I 83 k) 256) = cpy I t (k + 1) := by
  funext j
  unfold ud cpy
  by_cases c : j = 160 * t + k
  · rw [if_pos c, if_pos (by omega), c, show 160 * t + k - 160 * t = k by omega]
  · rw [if_neg c]
    by_cases c2 : 160 * t ≤ j ∧ j < 160 * t + k
    · rw [if_pos c2, if_pos (by omega)]
    · rw [if_neg c2, if_neg (by omega)]
theorem L_218c (h5 : I 82 5 = (t : Int)) (ht : t < 30) (hn : n ≤ 160) : ∀ (u k : Nat), k + u = n → Run PG (Call PG (d + 9)) 216 218 [(2, 82), (0, x1), (0, x2), (0, x3), (0, (n : Int)), (0, x5), (0, (k : Int))] [] (pc I 98 (cpy I t k), RF sp rt tt z.1, z) (0, 0) = some (some (0, (t : Int)), (up2 (pc I 98 (cpy I t n)) 82 5 ((t + 1 : Nat) : Int), RF sp rt tt z.1, z)) := by
  intro u
  induction u with
  | zero =>
    intro k hk
    have : k = n := by omega
    subst this
    have e5 : pc I 98 (cpy I t k) 82 5 = (t : Int) := (pc_ne (by decide)).trans h5
    refine (T_216_218 ..).trans (ci_f (by omega) ?_)
    rw [e5, w_n (by omega), w32_of (by omega) (by omega), show ((t + 1 : Nat) : Int) - 1 = (t : Int) by omega]
  | succ u ih =>
    intro k hk
    have e5 : pc I 98 (cpy I t k) 82 5 = (t : Int) := (pc_ne (by decide)).trans h5
    have e83 : pc I 98 (cpy I t k) 83 k = I 83 k := pc_ne (by decide)
    refine (T_216_218 ..).trans (ci_t (by omega) (ci_t (by omega) ?_))
    rw [e5, w32_of (x := 160 * (t : Int)) (by omega) (by omega), w32_of (x := 160 * (t : Int) + k) (by omega) (by omega), w_n (by omega), show ((k : Int)).toNat = k by omega, e83, show (160 * (t : Int) + k).toNat = 160 * t + k by omega, up2_pc, cpy_s]
    exact ci_t (by omega) (ih (k + 1) (by omega))
theorem R_216 (h5 : I 82 5 = (t : Int)) (ht : t < 30) {s : Nat} (h51 : I 82 51 = (s : Int)) (h3 : 0 ≤ I 82 3 ∧ I 82 3 ≤ 5000) (hn : 1 ≤ n ∧ n ≤ 160) (c1 : x1 = -1 ∨ (0 ≤ x1 ∧ x1 < I 82 3)) (c2 : 0 ≤ x2 ∧ x2 ≤ 3472) (c3 : x2 ≤ x3 ∧ x3 ≤ 3472) (c4 : (n : Int) ≤ I 82 1) : ∃ J : Nat → Nat → Int, FRX t I J ∧ J 82 1 = 0 ∧ (∃ s' : Nat, J 82 51 = (s' : Int)) ∧ match RDL (qc (I 83) n) n 12 0 with
    | .inl e => J 82 5 = I 82 5 ∧ Call PG (d + 10) 216 [(2, 82), (0, x1), (0, x2), (0, x3), (0, (n : Int))] (I, RF sp rt tt z.1, z) = some (some (0, e), (J, RF sp rt tt z.1, z))
    | .inr l => Call PG (d + 10) 216 [(2, 82), (0, x1), (0, x2), (0, x3), (0, (n : Int))] (I, RF sp rt tt z.1, z) = some (some (0, (t : Int)), (J, RF sp rt tt z.1, z)) ∧ J 82 5 = ((t + 1 : Nat) : Int) ∧ (J 94 t = x1 ∧ J 95 t = x2 ∧ J 96 t = x3 ∧ J 97 t = (l.length : Int)) ∧ (∀ k, k < n → J 98 (160 * t + k) = Int.bmod (I 83 k) 256) ∧ KRL t J (J 106) (J 107) 160 0 l := by
  have f0 : ∀ a j, ¬ (a = 82 ∧ (j = 1 ∨ j = 46 ∨ j = 48)) → (up2 (up2 (up2 I 82 1 0) 82 46 (n : Int)) 82 48 0) a j = I a j := fun a j c => by
    simp only [up2_def]
    rw [if_neg (by omega), if_neg (by omega), if_neg (by omega)]
  have g48 : (up2 (up2 (up2 I 82 1 0) 82 46 (n : Int)) 82 48 0) 82 48 = ((0 : Nat) : Int) := up2_eq
  have g46 : (up2 (up2 (up2 I 82 1 0) 82 46 (n : Int)) 82 48 0) 82 46 = (n : Int) := (up2_nj (by decide)).trans up2_eq
  have g1 : (up2 (up2 (up2 I 82 1 0) 82 46 (n : Int)) 82 48 0) 82 1 = 0 := (up2_nj (by decide)).trans ((up2_nj (by decide)).trans up2_eq)
  have eS := HR_self (I := I) h51 (x := (n : Int))
  generalize hI0 : up2 (up2 (up2 I 82 1 0) 82 46 (n : Int)) 82 48 0 = I0 at *
  have b0 : I0 83 = I 83 := funext (fun j => f0 _ _ (by omega))
  have hX : RX I0 n t := ⟨g46, hn.2, (f0 _ _ (by omega)).trans h5, ht⟩
  have k1 : Call PG (d + 10) 216 [(2, 82), (0, x1), (0, x2), (0, x3), (0, (n : Int))] (I, RF sp rt tt z.1, z) = Run PG (Call PG (d + 9)) 216 105 [(2, 82), (0, x1), (0, x2), (0, x3), (0, (n : Int)), (0, 1), (9, 0)] [] (HR I0 0 0 0 (I 82 50) s (I 82 52) (I 82 53) (I 106) (I 107) (I 108), RF sp rt tt z.1, z) (0, 0) := by
    have k2 : Run PG (Call PG (d + 9)) 216 31 [(2, 82), (0, x1), (0, x2), (0, x3), (0, (n : Int)), (9, 0), (9, 0)] [(0, 1)] (I, RF sp rt tt z.1, z) (0, 0) = Run PG (Call PG (d + 9)) 216 105 [(2, 82), (0, x1), (0, x2), (0, x3), (0, (n : Int)), (0, 1), (9, 0)] [] (HR I0 0 0 0 (I 82 50) s (I 82 52) (I 82 53) (I 106) (I 107) (I 108), RF sp rt tt z.1, z) (0, 0) := by
      refine (T_216_31 ..).trans (ci_f (by decide) (bd_t S_209 ?_))
      refine (T_216_44 ..).trans ?_
      rw [bz_t c3]
      refine ci_f (by decide) (bd_t S_209 ?_)
      refine (T_216_57 ..).trans ?_
      rw [bz_t (by omega), eS]
      exact ci_f (by decide) (ci_t c4 rfl)
    refine (K_216 ..).trans ?_
    refine (T_216_0 ..).trans (ci_f (by omega) ?_)
    by_cases q : x1 = -1
    · refine ci_t q (bd_t S_209 ?_)
      rw [bz_t c2]
      exact k2
    · refine ci_f q (bd_t (S_212 h3) ?_)
      refine (T_216_19 ..).trans ?_
      rw [bz_t (c1.resolve_left q)]
      refine ci_f (by decide) (bd_t S_209 ?_)
      rw [bz_t c2]
      exact k2
  have L := L_216 (d := d) (sp := sp) (rt := rt) (tt := tt) (z := z) (n := n) (t := t) (x1 := x1) (x2 := x2) (x3 := x3) (x4 := (n : Int)) 12 0 0 0 s (I 82 50) (I 82 52) (I 82 53) (I 106) (I 107) (I 108) I0 hX rfl g48 rfl (by omega) (by omega)
  rw [b0] at L
  have fr : ∀ (J : Nat → Nat → Int) (p' cs' sd' : Nat) (bad' op' dn' bh' : Int) (co' ar' st' : Nat → Int), FRR t 0 I0 J → (∀ x, x < 160 * t → co' x = I 106 x ∧ ar' x = I 107 x) → ∀ a j, ¬ (a = 82 ∧ (j = 1 ∨ (45 ≤ j ∧ j ≤ 53))) → ¬ (99 ≤ a ∧ a ≤ 105 ∧ 12 * t ≤ j) → ¬ ((a = 106 ∨ a = 107) ∧ 160 * t ≤ j) → ¬ a = 108 → HR J p' bad' cs' op' sd' dn' bh' co' ar' st' a j = I a j := by
    intro J p' cs' sd' bad' op' dn' bh' co' ar' st' fJ ag a j q1 q2 q3 q4
    by_cases d1 : a = 106
    · subst d1
      rw [hr_co]
      exact (ag j (by omega)).1
    · by_cases d2 : a = 107
      · subst d2
        rw [hr_ar]
        exact (ag j (by omega)).2
      · rw [hr_o (by omega) ⟨d1, d2, q4⟩, fJ a j (by omega) (by omega), f0 a j (by omega)]
  cases hr : RDL (qc (I 83) n) n 12 0 with
  | inl e0 =>
    rw [hr] at L
    obtain ⟨J, p', cs', sd', op', dn', bh', co', ar', st', e1, fJ, ag⟩ := L
    have F := fr J p' cs' sd' e0 op' dn' bh' co' ar' st' fJ ag
    refine ⟨HR J p' e0 cs' op' sd' dn' bh' co' ar' st', fun a j q1 q2 q3 q4 q5 q6 => F a j (by omega) q2 q5 q6, ?_, ⟨sd', hr_sd⟩, F 82 5 (by omega) (by omega) (by omega) (by decide), k1.trans e1⟩
    exact (hr_o (Or.inr (by decide)) (by decide)).trans ((fJ _ _ (by omega) (by omega)).trans g1)
  | inr l =>
    rw [hr] at L
    obtain ⟨J, p', cs', sd', op', dn', bh', co', ar', st', e1, fJ, ag, kl, el⟩ := L
    have F := fr J p' cs' sd' 0 op' dn' bh' co' ar' st' fJ (fun x hx => ag x (by omega))
    have e5 : HR J p' 0 cs' op' sd' dn' bh' co' ar' st' 82 5 = (t : Int) := (F 82 5 (by omega) (by omega) (by omega) (by decide)).trans h5
    have e48 : HR J p' 0 cs' op' sd' dn' bh' co' ar' st' 82 48 = (l.length : Int) := (hr_o (Or.inr (by decide)) (by decide)).trans (el.trans (by omega))
    have e83 : HR J p' 0 cs' op' sd' dn' bh' co' ar' st' 83 = I 83 := funext (fun j => F 83 j (by omega) (by omega) (by omega) (by decide))
    have ks : ∀ m' l', KRL t J co' ar' 160 m' l' → ∀ K : Nat → Nat → Int, (∀ a j, 99 ≤ a → a ≤ 107 → K a j = HR J p' 0 cs' op' sd' dn' bh' co' ar' st' a j) → KRL t K (K 106) (K 107) 160 m' l' := by
      intro m' l'
      induction l' generalizing m' with
      | nil => exact fun _ _ _ => trivial
      | cons c l'' ih =>
        intro hk K hK
        have eK : ∀ a j, 99 ≤ a → a ≤ 105 → K a j = J a j := fun a j q1 q2 => (hK a j q1 (by omega)).trans (hr_o (Or.inl (by omega)) (by omega))
        have e106 : K 106 = co' := funext (fun j => (hK 106 j (by decide) (by decide)).trans hr_co)
        have e107 : K 107 = ar' := funext (fun j => (hK 107 j (by decide) (by decide)).trans hr_ar)
        refine ⟨?_, ih _ hk.2 K hK⟩
        rw [e106, e107]
        obtain ⟨w1, w2, w3, w4, w5⟩ := hk.1
        have E := fun a q1 q2 => eK a (12 * t + m') q1 q2
        refine ⟨(E 99 (by decide) (by decide)).trans w1, fun q => (E 100 (by decide) (by decide)).trans (w2 q), fun q => ⟨(E 100 (by decide) (by decide)).trans (w3 q).1, (E 101 (by decide) (by decide)).trans (w3 q).2⟩, fun q => ?_, fun q => by rw [E 104 (by decide) (by decide), E 105 (by decide) (by decide)]; exact w5 q⟩
        obtain ⟨v1, v2, a, b, v3, v4, v5⟩ := w4 q
        exact ⟨(E 102 (by decide) (by decide)).trans v1, (E 103 (by decide) (by decide)).trans v2, a, b, (E 104 (by decide) (by decide)).trans v3, (E 105 (by decide) (by decide)).trans v4, v5⟩
    have H4 := ks 0 l kl
    have h51' : HR J p' 0 cs' op' sd' dn' bh' co' ar' st' 82 51 = (sd' : Int) := hr_sd
    have h1' : HR J p' 0 cs' op' sd' dn' bh' co' ar' st' 82 1 = 0 := (hr_o (Or.inr (by decide)) (by decide)).trans ((fJ _ _ (by omega) (by omega)).trans g1)
    have e105 : Run PG (Call PG (d + 9)) 216 105 [(2, 82), (0, x1), (0, x2), (0, x3), (0, (n : Int)), (0, 0), (9, 0)] [] (HR J p' 0 cs' op' sd' dn' bh' co' ar' st', RF sp rt tt z.1, z) (0, 0) = Run PG (Call PG (d + 9)) 216 218 [(2, 82), (0, x1), (0, x2), (0, x3), (0, (n : Int)), (0, 0), (0, ((0 : Nat) : Int))] [] (up2 (up2 (up2 (up2 (HR J p' 0 cs' op' sd' dn' bh' co' ar' st') 94 t x1) 95 t x2) 96 t x3) 97 t (l.length : Int), RF sp rt tt z.1, z) (0, 0) := by
      refine (T_216_105 ..).trans (ci_t rfl ?_)
      rw [hr_bad, e5, e48, show ((t : Int)).toNat = t by omega]
      exact ci_f (by decide) (ci_t (by omega) (ci_t (by omega) (ci_t (by omega) (ci_t (by omega) rfl))))
    generalize hH : HR J p' 0 cs' op' sd' dn' bh' co' ar' st' = H at *
    have i5 : (up2 (up2 (up2 (up2 H 94 t x1) 95 t x2) 96 t x3) 97 t (l.length : Int)) 82 5 = (t : Int) := by
      simp (disch := decide) only [up2_ne]
      exact e5
    have lc := L_218c (d := d) (I := up2 (up2 (up2 (up2 H 94 t x1) 95 t x2) 96 t x3) 97 t (l.length : Int)) (x1 := x1) (x2 := x2) (x3 := x3) (x5 := 0) (sp := sp) (rt := rt) (tt := tt) (z := z) i5 ht hn.2 n 0 (by omega)
    have i98 : (up2 (up2 (up2 (up2 H 94 t x1) 95 t x2) 96 t x3) 97 t (l.length : Int)) 83 = I 83 := by
      funext j
      simp (disch := decide) only [up2_ne]
      exact congrFun e83 j
    have ec : pc (up2 (up2 (up2 (up2 H 94 t x1) 95 t x2) 96 t x3) 97 t (l.length : Int)) 98 (cpy (up2 (up2 (up2 (up2 H 94 t x1) 95 t x2) 96 t x3) 97 t (l.length : Int)) t 0) = up2 (up2 (up2 (up2 H 94 t x1) 95 t x2) 96 t x3) 97 t (l.length : Int) := by
      have : cpy (up2 (up2 (up2 (up2 H 94 t x1) 95 t x2) 96 t x3) 97 t (l.length : Int)) t 0 = (up2 (up2 (up2 (up2 H 94 t x1) 95 t x2) 96 t x3) 97 t (l.length : Int)) 98 := funext (fun j => if_neg (by omega))
      rw [this]
      exact pc_self
    rw [ec] at lc
    refine ⟨_, ?_, ?_, ⟨sd', ?_⟩, k1.trans (e1.trans (e105.trans lc)), up2_eq, ⟨?_, ?_, ?_, ?_⟩, ?_, H4 _ ?_⟩
    · intro a j q1 q2 q3 q4 q5 q6
      have n82 : ¬ (a = 82 ∧ j = 5) := by omega
      rw [up2_def, if_neg n82]
      by_cases d98 : a = 98
      · subst d98
        rw [pc_at]
        unfold cpy
        rw [if_neg (by omega)]
        simp (disch := decide) only [up2_ne]
        exact F 98 j (by omega) (by omega) (by omega) (by decide)
      · rw [pc_ne d98]
        simp only [up2_def]
        rw [if_neg (by omega), if_neg (by omega), if_neg (by omega), if_neg (by omega)]
        exact F a j (by omega) q2 q5 q6
    · rw [up2_nj (by decide), pc_ne (by decide)]
      simp (disch := decide) only [up2_ne]
      exact h1'
    · rw [up2_nj (by decide), pc_ne (by decide)]
      simp (disch := decide) only [up2_ne]
      exact h51'
    · rw [up2_ne (by decide), pc_ne (by decide)]
      simp (disch := decide) only [up2_ne, up2_eq]
    · rw [up2_ne (by decide), pc_ne (by decide)]
      simp (disch := decide) only [up2_ne, up2_eq]
    · rw [up2_ne (by decide), pc_ne (by decide)]
      simp (disch := decide) only [up2_ne, up2_eq]
    · rw [up2_ne (by decide), pc_ne (by decide)]
      exact up2_eq
    · intro k hk
      rw [up2_ne (by decide), pc_at]
      unfold cpy
      rw [if_pos (by omega), i98, show 160 * t + k - 160 * t = k by omega]
    · intro a j q1 q2
      rw [up2_ne (by omega), pc_ne (by omega), up2_ne (by omega), up2_ne (by omega), up2_ne (by omega), up2_ne (by omega)]
end RT0

