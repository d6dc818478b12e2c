/-! texts: the second reader's clauses -/
/-- a condition, from its ( on -/
def CDP (q : Nat → Int) (p : Nat) : PR := if q p = 40 then (match COND q (PIECE q 5) (p + 1) with
  | .inl e => .inl e
  | .inr (j, f) => if q j = 41 then .inr (j + 1, f) else .inl (fau 1 j)) else .inl (fau 1 p)
section RF0
variable {d : Nat} {I : Nat → Nat → Int} {sp rt : Nat} {tt : Nat → Nat} {z : Zs} {n t k : Nat} {p cs sd : Nat} {bad op dn bh : Int} {co ar st : Nat → Int}
/-- only what lies at k of the conditions' bytes has changed -/
def FR2 (k : Nat) (I J : Nat → Nat → Int) : Prop := ∀ a j, ¬ (102 ≤ a ∧ a ≤ 103 ∧ j = k) → J a j = I a j
theorem FR2_r : FR2 k I I := fun _ _ _ => rfl
theorem FR2_u {a : Nat} {x : Int} (h : 102 ≤ a ∧ a ≤ 103) : FR2 k I (up2 I a k x) := fun b j c => by
  unfold up2
  exact if_neg (fun q => c (by omega))
theorem FR2_t {J K : Nat → Nat → Int} (h : FR2 k I J) (h2 : FR2 k J K) : FR2 k I K := fun a j c => (h2 a j c).trans (h a j c)
theorem RX_2 {J : Nat → Nat → Int} (h : RX I n t) (f : FR2 k I J) : RX J n t := ⟨(f _ _ (by omega)).trans h.1, h.2.1, (f _ _ (by omega)).trans h.2.2.1, h.2.2.2⟩
theorem FR2_B {J : Nat → Nat → Int} (f : FR2 k I J) : J 83 = I 83 := funext (fun j => f _ _ (by omega))
theorem R_221 (h : RX I n t) (hk : k < 360) (hcs : cs ≤ p) (hp : p ≤ n) : ∃ (J : Nat → Nat → Int) (p' cs' sd' : Nat) (bad' op' dn' bh' : Int) (co' ar' st' : Nat → Int), Call PG (d + 8) 221 [(2, 82), (0, (k : Int))] (HR I p 0 cs op sd dn bh co ar st, RF sp rt tt z.1, z) = some (none, (HR J p' bad' cs' op' sd' dn' bh' co' ar' st', RF sp rt tt z.1, z)) ∧ FR2 k I J ∧ match CDP (qc (I 83) n) p with
    | .inl e => bad' = e ∧ ∀ x, x < 160 * t → co' x = co x ∧ ar' x = ar x
    | .inr (j, f) => bad' = 0 ∧ p' = j ∧ (cs < cs' ∧ cs' + p ≤ cs + j ∧ p + 1 < j ∧ j ≤ n) ∧ (∀ x, x < 160 * t + cs → co' x = co x ∧ ar' x = ar x) ∧ Cr (fun x => co' (160 * t + x)) (fun x => ar' (160 * t + x)) cs cs' f ∧ J 102 k = (p : Int) ∧ J 103 k = (j : Int) := by
  have hq := qc_OQ (I 83) n
  have hm := h.2.1
  have he := hr_e (qc_rng (I 83) n p).1
  have f1 : FR2 k I (up2 I 102 k (p : Int)) := FR2_u (by decide)
  have h1 := RX_2 h f1
  have b1 := FR2_B f1
  have k1 : Call PG (d + 8) 221 [(2, 82), (0, (k : Int))] (HR I p 0 cs op sd dn bh co ar st, RF sp rt tt z.1, z) = Run PG (Call PG (d + 7)) 221 29 [(2, 82), (0, (k : Int)), (9, 0)] [(0, hrb (qc (I 83) n p))] (HR (up2 I 102 k (p : Int)) p 0 cs 0 0 0 bh co ar st, RF sp rt tt z.1, z) (0, 0) := by
    refine (K_221 ..).trans ?_
    refine (T_221_0 ..).trans (ci_t (by omega) ?_)
    rw [hr_p, show ((k : Int)).toNat = k by omega]
    have e1 : up2 (up2 (up2 (HR I p 0 cs op sd dn bh co ar st) 82 51 0) 82 50 0) 82 52 0 = HR I p 0 cs 0 0 0 bh co ar st := by
      have := hw_sd (I := I) (p := p) (bad := 0) (cs := cs) (op := op) (sd := sd) (dn := dn) (bh := bh) (co := co) (ar := ar) (st := st) (y := 0)
      rw [show ((0 : Nat) : Int) = 0 from rfl] at this
      rw [this, hw_op, hw_dn]
    rw [e1, hw_I (Or.inl (by decide)) (by decide)]
    have s := S_219 (d := d + 6) (p := p) (bad := 0) (cs := cs) (op := 0) (sd := 0) (dn := 0) (bh := bh) (co := co) (ar := ar) (st := st) (sp := sp) (rt := rt) (tt := tt) (z := z) h1
    rw [b1] at s
    exact bd_t s rfl
  unfold CDP
  by_cases c : qc (I 83) n p = 40
  · have hl := OQ_lt hq (by decide) c
    rw [if_pos c]
    have s222 := S_222 (d := d + 5) (p := p) (bad := 0) (cs := cs) (op := 0) (sd := 0) (dn := 0) (bh := bh) (co := co) (ar := ar) (st := st) (sp := sp) (rt := rt) (tt := tt) (z := z) h1 rfl (by decide) (by omega) (by decide)
    rw [b1, show hrb (qc (I 83) n p) = 40 by omega, if_neg (show ¬ (0 : Int) = 6 by decide)] at s222
    have k2 : Call PG (d + 8) 221 [(2, 82), (0, (k : Int))] (HR I p 0 cs op sd dn bh co ar st, RF sp rt tt z.1, z) = Run PG (Call PG (d + 7)) 221 57 [(2, 82), (0, (k : Int)), (0, 1)] [] (HR (up2 I 102 k (p : Int)) (p + 1) 0 cs 1 1 0 bh co ar (uc st 0 40), RF sp rt tt z.1, z) (0, 0) := by
      refine k1.trans ?_
      rw [show hrb (qc (I 83) n p) = 40 by omega]
      refine (T_221_29 ..).trans (ci_t rfl ?_)
      refine (T_221_43 ..).trans (bd_t S_217 ?_)
      refine (T_221_47 ..).trans ?_
      rw [bz_t rfl]
      refine ci_f (by decide) (bd_t s222 ?_)
      exact T_221_55 ..
    have rc := R_COND (sp := sp) (rt := rt) (tt := tt) (z := z) (d := d) h1 hk (p + 1) cs 1 bh co ar (uc st 0 40) (Nat.le_refl _) (by omega) (by omega) (by show uc st 0 40 0 = 40; rw [uc_s])
    rw [b1] at rc
    have fail : ∀ e, CFl (up2 I 102 k (p : Int)) sp rt tt z t k co ar e (Run PG (Call PG (d + 7)) 221 57 [(2, 82), (0, (k : Int)), (0, 1)] [] (HR (up2 I 102 k (p : Int)) (p + 1) 0 cs 1 1 0 bh co ar (uc st 0 40), RF sp rt tt z.1, z) (0, 0)) → ∃ (J : Nat → Nat → Int) (p' cs' sd' : Nat) (bad' op' dn' bh' : Int) (co' ar' st' : Nat → Int), Call PG (d + 8) 221 [(2, 82), (0, (k : Int))] (HR I p 0 cs op sd dn bh co ar st, RF sp rt tt z.1, z) = some (none, (HR J p' bad' cs' op' sd' dn' bh' co' ar' st', RF sp rt tt z.1, z)) ∧ FR2 k I J ∧ bad' = e ∧ ∀ x, x < 160 * t → co' x = co x ∧ ar' x = ar x := by
      intro e hf
      obtain ⟨p', cs', sd', op', bh', co', ar', st', e1, ag⟩ := hf
      exact ⟨_, p', cs', sd', e, op', 0, bh', co', ar', st', k2.trans e1, FR2_t f1 (FR2_u (by decide)), rfl, ag⟩
    cases hc : COND (qc (I 83) n) (PIECE (qc (I 83) n) 5) (p + 1) with
    | inl e0 =>
      rw [hc] at rc
      exact fail e0 rc
    | inr w =>
      obtain ⟨j, f⟩ := w
      rw [hc] at rc
      dsimp only
      by_cases c3 : qc (I 83) n j = 41
      · have hl3 := OQ_lt hq (by decide) c3
        rw [if_pos c3]
        obtain ⟨cs1, bh1, m1, co1, ar1, st1, e1, ⟨s1, s2, s3, s4⟩⟩ := rc.2 c3
        have top : st1 0 = 40 := (s2 0 (by decide)).trans uc_s
        rw [EN_id (show ¬ tp st1 1 = 33 from fun q => by have : st1 0 = 33 := q; omega)] at e1
        have g41 := GB_41 (d := d) (p := j) (cs := cs1) (op := 1) (sd := 1) (bh := bh1) (co := co1) (ar := ar1) (st := st1) (sp := sp) (rt := rt) (tt := tt) (z := z) h1 (by rw [b1]; exact c3)
        have e4 : Call PG (d + 7) 237 [(2, 82)] (HR (up2 I 102 k (p : Int)) j 0 cs1 1 1 0 bh1 co1 ar1 st1, RF sp rt tt z.1, z) = some (some (0, 0), (HR (up2 I 102 k (p : Int)) (j + 1) 0 cs1 0 0 1 bh1 co1 ar1 st1, RF sp rt tt z.1, z)) := by
          refine g41.trans (bd_t (JU_stop (d := d + 3) (sd := 1) (st := st1) (by decide) (by show ¬ st1 0 = 38; omega) (Or.inr (by show ¬ st1 0 = 124; omega))) ?_)
          refine (T_237_61 ..).trans ?_
          rw [hr_sd, show w32 (((1 : Nat) : Int) - 1) = ((0 : Nat) : Int) by rw [w32_of (by decide) (by decide)]; rfl, hw_sd, hr_op, show w32 ((1 : Int) - 1) = 0 by rw [w32_of (by decide) (by decide)]; rfl, hw_op, hr_p, w_n (by omega), hw_p]
          refine ci_t rfl (ci_f (by decide) ?_)
          rw [hw_dn]
          exact T_237_118 ..
        have e5 : Call PG (d + 8) 221 [(2, 82), (0, (k : Int))] (HR I p 0 cs op sd dn bh co ar st, RF sp rt tt z.1, z) = some (none, (HR (up2 (up2 I 102 k (p : Int)) 103 k ((j + 1 : Nat) : Int)) (j + 1) 0 cs1 0 0 1 bh1 co1 ar1 st1, RF sp rt tt z.1, z)) := by
          refine k2.trans (e1.trans (E79.trans (bd_t e4 ?_)))
          refine (T_221_90 ..).trans ?_
          refine (T_221_57 ..).trans (bd_t S_217 ?_)
          refine (T_221_61 ..).trans ?_
          rw [bz_t rfl, hr_dn]
          refine ci_f (by decide) (ci_f (by decide) (ci_t (by omega) ?_))
          rw [hr_p, show ((k : Int)).toNat = k by omega, hw_I (Or.inl (by decide)) (by decide)]
        refine ⟨_, j + 1, cs1, 0, 0, 0, 1, bh1, co1, ar1, st1, e5, FR2_t f1 (FR2_u (by decide)), rfl, rfl, by omega, s3, s4, ?_, up2_eq⟩
        rw [up2_ne (by decide)]
        exact up2_eq
      · rw [if_neg c3]
        exact fail _ (rc.1 c3)
  · rw [if_neg c]
    have hn1 := fau_neg (f := 1) (by decide) p
    refine ⟨up2 I 102 k (p : Int), p, cs, 0, fau 1 p, 0, 0, bh, co, ar, st, k1.trans ?_, f1, rfl, fun _ _ => ⟨rfl, rfl⟩⟩
    refine (T_221_29 ..).trans (ci_f (by omega) ?_)
    rw [hr_p]
    refine bd_t (S_220 (by decide) (by omega)) ?_
    refine (T_221_43 ..).trans (bd_t S_217 ?_)
    refine (T_221_47 ..).trans ?_
    rw [if_neg (show ¬ (0 : Int) < 0 by decide), bz_f (by omega)]
    exact ci_t rfl rfl
theorem S_239 (h : RX I n t) (hp : p ≤ 1000) {c : Int} (hc : 1 ≤ c) : Call PG (d + 2) 239 [(2, 82), (0, c)] (HR I p 0 cs op sd dn bh co ar st, RF sp rt tt z.1, z) = some (none, (HR I (p + 1) (if qc (I 83) n p = c then 0 else fau 1 p) cs op sd dn bh co ar st, RF sp rt tt z.1, z)) := by
  have he := hr_e (qc_rng (I 83) n p).1
  refine (K_239 ..).trans ?_
  refine (T_239_0 ..).trans (bd_t (S_219 h) ?_)
  refine (T_239_4 ..).trans ?_
  rw [hr_p]
  by_cases c1 : qc (I 83) n p = c
  · rw [if_pos c1]
    refine ci_t (by omega) ?_
    refine (T_239_17 ..).trans ?_
    rw [hr_p, w_n hp, hw_p]
  · rw [if_neg c1]
    refine ci_f (by omega) (bd_t (S_220 (by decide) hp) ?_)
    refine (T_239_17 ..).trans ?_
    rw [if_neg (show ¬ (0 : Int) < 0 by decide), hr_p, w_n hp, hw_p]
end RF0
/-- a clause as the second reader holds it: text t, number m -/
def KR (t m : Nat) (I : Nat → Nat → Int) (co ar : Nat → Int) (u : Nat) (c : CLM) : Prop :=
  I 99 (12 * t + m) = c.1 ∧ (c.1 = 102 ∨ c.1 = 119 → I 100 (12 * t + m) = c.2.1) ∧ (c.1 = 120 → I 100 (12 * t + m) = c.2.1 ∧ I 101 (12 * t + m) = c.2.2.1) ∧
  (isC c.1 → I 102 (12 * t + m) = (c.2.2.2.1 : Int) - 1 ∧ I 103 (12 * t + m) = (c.2.2.2.2.1 : Int) + 1 ∧ ∃ a b : Nat, I 104 (12 * t + m) = (a : Int) ∧ I 105 (12 * t + m) = (b : Int) ∧ b ≤ u ∧ Cr (fun x => co (160 * t + x)) (fun x => ar (160 * t + x)) a b c.2.2.2.2.2) ∧ (¬ isC c.1 → I 104 (12 * t + m) = I 105 (12 * t + m))
/-- only clauses from m on, and how many there are, have changed -/
def FRR (t m : Nat) (I J : Nat → Nat → Int) : Prop := ∀ a j, ¬ (99 ≤ a ∧ a ≤ 105 ∧ 12 * t + m ≤ j) → ¬ (a = 82 ∧ j = 48) → J a j = I a j
section RG0
variable {d : Nat} {I : Nat → Nat → Int} {sp rt : Nat} {tt : Nat → Nat} {z : Zs} {n t m : Nat} {p cs sd : Nat} {bad op dn bh : Int} {co ar st : Nat → Int}
theorem FRR_r : FRR t m I I := fun _ _ _ _ => rfl
theorem FRR_t {J K : Nat → Nat → Int} (h : FRR t m I J) (h2 : FRR t m J K) : FRR t m I K := fun a j c1 c2 => (h2 a j c1 c2).trans (h a j c1 c2)
theorem FRR_le {m' : Nat} {J : Nat → Nat → Int} (h : FRR t m' I J) (hm : m ≤ m') : FRR t m I J := fun a j c1 c2 => h a j (fun q => c1 (by omega)) c2
theorem FRR_u {a j : Nat} {x : Int} (h : (99 ≤ a ∧ a ≤ 105 ∧ 12 * t + m ≤ j) ∨ (a = 82 ∧ j = 48)) : FRR t m I (up2 I a j x) := fun b k c1 c2 => by
  unfold up2
  exact if_neg (fun q => h.elim (fun r => c1 (by omega)) (fun r => c2 (by omega)))
theorem FRR_2 {J : Nat → Nat → Int} (f : FR2 (12 * t + m) I J) : FRR t m I J := fun a j c1 _ => f a j (fun q => c1 (by omega))
theorem FRR_B {J : Nat → Nat → Int} (f : FRR t m I J) : J 83 = I 83 := funext (fun j => f _ _ (by omega) (by omega))
theorem RX_f {J : Nat → Nat → Int} (h : RX I n t) (f : FRR t m I J) : RX J n t := ⟨(f _ _ (by omega) (by omega)).trans h.1, h.2.1, (f _ _ (by omega) (by omega)).trans h.2.2.1, h.2.2.2⟩
def RCr (I : Nat → Nat → Int) (sp rt : Nat) (tt : Nat → Nat) (z : Zs) (n t m p cs : Nat) (co ar : Nat → Int) (r : Int ⊕ (Nat × CLM)) (res : Option Res) : Prop :=
  ∃ (J : Nat → Nat → Int) (p' cs' sd' : Nat) (bad' op' dn' bh' : Int) (co' ar' st' : Nat → Int), res = some (none, (HR J p' bad' cs' op' sd' dn' bh' co' ar' st', RF sp rt tt z.1, z)) ∧ FRR t m I J ∧ match r with
    | .inl e => bad' = e ∧ ∀ x, x < 160 * t → co' x = co x ∧ ar' x = ar x
    | .inr (j, c) => bad' = 0 ∧ p' = j ∧ (cs ≤ cs' ∧ cs' + p ≤ cs + j ∧ p < j ∧ j ≤ n) ∧ (∀ x, x < 160 * t + cs → co' x = co x ∧ ar' x = ar x) ∧ KR t m J co' ar' cs' c ∧ J 82 48 = (m : Int) + 1

theorem C6 {x : Int} : FRR t m I (up2 (up2 (up2 (up2 (up2 (up2 I 99 (12 * t + m) x) 100 (12 * t + m) 0) 101 (12 * t + m) 0) 102 (12 * t + m) 0) 103 (12 * t + m) 0) 104 (12 * t + m) (cs : Int)) ∧ (up2 (up2 (up2 (up2 (up2 (up2 I 99 (12 * t + m) x) 100 (12 * t + m) 0) 101 (12 * t + m) 0) 102 (12 * t + m) 0) 103 (12 * t + m) 0) 104 (12 * t + m) (cs : Int)) 99 (12 * t + m) = x ∧ (up2 (up2 (up2 (up2 (up2 (up2 I 99 (12 * t + m) x) 100 (12 * t + m) 0) 101 (12 * t + m) 0) 102 (12 * t + m) 0) 103 (12 * t + m) 0) 104 (12 * t + m) (cs : Int)) 104 (12 * t + m) = (cs : Int) ∧ (up2 (up2 (up2 (up2 (up2 (up2 I 99 (12 * t + m) x) 100 (12 * t + m) 0) 101 (12 * t + m) 0) 102 (12 * t + m) 0) 103 (12 * t + m) 0) 104 (12 * t + m) (cs : Int)) 82 48 = I 82 48 := by
  refine ⟨FRR_t (FRR_t (FRR_t (FRR_t (FRR_t (FRR_u ?_) (FRR_u ?_)) (FRR_u ?_)) (FRR_u ?_)) (FRR_u ?_)) (FRR_u ?_), ?_, ?_, ?_⟩
  · exact Or.inl (by omega)
  · exact Or.inl (by omega)
  · exact Or.inl (by omega)
  · exact Or.inl (by omega)
  · exact Or.inl (by omega)
  · exact Or.inl (by omega)
  · simp (disch := decide) only [up2_ne, up2_eq]
  · simp (disch := decide) only [up2_ne, up2_eq]
  · simp (disch := decide) only [up2_ne]
theorem k218 (h : RX I n t) (hm : I 82 48 = (m : Int)) (hlt : m < 12) (hp : p ≤ 160) {x : Int} : Run PG (Call PG (d + 8)) 218 65 [(2, 82), (0, x), (9, 0)] [] (HR I p 0 cs op sd dn bh co ar st, RF sp rt tt z.1, z) (0, 0) = (ci (x = 100 ∨ x = 110 ∨ x = 119) (bd (Call PG (d + 8) 221 [(2, 82), (0, ((12 * t + m : Nat) : Int))] (HR (up2 (up2 (up2 (up2 (up2 (up2 I 99 (12 * t + m) x) 100 (12 * t + m) 0) 101 (12 * t + m) 0) 102 (12 * t + m) 0) 103 (12 * t + m) 0) 104 (12 * t + m) (cs : Int)) (p + 1) 0 cs op sd dn bh co ar st, RF sp rt tt z.1, z)) (fun v h => Run PG (Call PG (d + 8)) 218 164 [(2, 82), (0, x), (0, ((12 * t + m : Nat) : Int))] (v.toList ++ []) h (0, 0))) (Run PG (Call PG (d + 8)) 218 164 [(2, 82), (0, x), (0, ((12 * t + m : Nat) : Int))] [] (HR (up2 (up2 (up2 (up2 (up2 (up2 I 99 (12 * t + m) x) 100 (12 * t + m) 0) 101 (12 * t + m) 0) 102 (12 * t + m) 0) 103 (12 * t + m) 0) 104 (12 * t + m) (cs : Int)) (p + 1) 0 cs op sd dn bh co ar st, RF sp rt tt z.1, z) (0, 0))) := by
  have ht := h.2.2.2
  have ek : w32 (w32 (12 * HR I p 0 cs op sd dn bh co ar st 82 5) + HR I p 0 cs op sd dn bh co ar st 82 48) = ((12 * t + m : Nat) : Int) := by
    rw [hr_o (Or.inr (by decide)) (by decide), hr_o (Or.inr (by decide)) (by decide), h.2.2.1, hm, w32_of (x := 12 * (t : Int)) (by omega) (by omega), w32_of (by omega) (by omega)]
    omega
  have eH : up2 (up2 (up2 (up2 (up2 (up2 (up2 (HR I p 0 cs op sd dn bh co ar st) 99 (12 * t + m) x) 100 (12 * t + m) 0) 101 (12 * t + m) 0) 102 (12 * t + m) 0) 103 (12 * t + m) 0) 104 (12 * t + m) (HR I p 0 cs op sd dn bh co ar st 82 49)) 82 45 (w32 (HR I p 0 cs op sd dn bh co ar st 82 45 + 1)) = HR (up2 (up2 (up2 (up2 (up2 (up2 I 99 (12 * t + m) x) 100 (12 * t + m) 0) 101 (12 * t + m) 0) 102 (12 * t + m) 0) 103 (12 * t + m) 0) 104 (12 * t + m) (cs : Int)) (p + 1) 0 cs op sd dn bh co ar st := by
    rw [hr_cs, hr_p, w_n (by omega), hw_I (Or.inl (by decide)) (by decide), hw_I (Or.inl (by decide)) (by decide), hw_I (Or.inl (by decide)) (by decide), hw_I (Or.inl (by decide)) (by decide), hw_I (Or.inl (by decide)) (by decide), hw_I (Or.inl (by decide)) (by decide), hw_p]
  refine (T_218_65 ..).trans (bd_t S_217 ?_)
  refine (T_218_69 ..).trans ?_
  rw [bz_t rfl, ek, show (((12 * t + m : Nat) : Int)).toNat = 12 * t + m by omega, eH]
  refine ci_f (by decide) (ci_t (by omega) (ci_t (by omega) (ci_t (by omega) (ci_t (by omega) (ci_t (by omega) (ci_t (by omega) ?_))))))
  by_cases c1 : x = 100
  · exact ci_t c1 (ci_t (Or.inl c1) rfl).symm
  · by_cases c2 : x = 110
    · exact ci_f c1 (ci_t c2 (ci_t (Or.inr (Or.inl c2)) rfl).symm)
    · by_cases c3 : x = 119
      · exact ci_f c1 (ci_f c2 (ci_t c3 (ci_t (Or.inr (Or.inr c3)) rfl).symm))
      · exact ci_f c1 (ci_f c2 (ci_f c3 (ci_f (by omega) rfl).symm))
theorem k164 {K : Nat} (hK : K < 360) {x : Int} : Run PG (Call PG (d + 8)) 218 164 [(2, 82), (0, x), (0, (K : Int))] [] (HR I p bad cs op sd dn bh co ar st, RF sp rt tt z.1, z) (0, 0) = Run PG (Call PG (d + 8)) 218 178 [(2, 82), (0, x), (0, (K : Int))] [(0, bz (bad = 0))] (HR (up2 I 105 K (cs : Int)) p bad cs op sd dn bh co ar st, RF sp rt tt z.1, z) (0, 0) := by
  refine (T_218_164 ..).trans (ci_t (by omega) ?_)
  rw [hr_cs, show ((K : Int)).toNat = K by omega, hw_I (Or.inl (by decide)) (by decide)]
  exact bd_t S_217 rfl
theorem kend (h48 : I 82 48 = (m : Int)) (hm : m ≤ 12) : up2 (HR I p bad cs op sd dn bh co ar st) 82 48 (w32 (HR I p bad cs op sd dn bh co ar st 82 48 + 1)) = HR (up2 I 82 48 ((m + 1 : Nat) : Int)) p bad cs op sd dn bh co ar st := by
  rw [hr_o (Or.inr (by decide)) (by decide), h48, w_n (by omega), hw_I (Or.inr (by decide)) (by decide)]
theorem R_218 (h : RX I n t) (hm : I 82 48 = (m : Int)) (hm2 : m ≤ 12) (hp : p ≤ n) (hcs : cs ≤ p) : RCr I sp rt tt z n t m p cs co ar (if m = 12 then .inl (if isL (qc (I 83) n p) then fau 4 p else fau 1 p) else CLAUSE (qc (I 83) n) p) (Call PG (d + 9) 218 [(2, 82)] (HR I p 0 cs op sd dn bh co ar st, RF sp rt tt z.1, z)) := by
  have hq := qc_OQ (I 83) n
  have hn := h.2.1
  have ht := h.2.2.2
  have he := hr_e (qc_rng (I 83) n p).1
  refine q_tr (K_218 ..) (q_tr (T_218_0 ..) (q_bd (S_219 h) ?_))
  by_cases hL0 : isL (qc (I 83) n p)
  · have hl := OQ_lt hq (c := qc (I 83) n p) (by omega) rfl
    rw [show hrb (qc (I 83) n p) = qc (I 83) n p by omega]
    by_cases cm : m = 12
    · rw [if_pos cm, if_pos hL0]
      have hn4 := fau_neg (f := 4) (by decide) p
      have k4 : Run PG (Call PG (d + 8)) 218 4 [(2, 82), (9, 0), (9, 0)] [(0, qc (I 83) n p)] (HR I p 0 cs op sd dn bh co ar st, RF sp rt tt z.1, z) (0, 0) = some (none, (HR I p (fau 4 p) cs op sd dn bh co ar st, RF sp rt tt z.1, z)) := by
        have k5 : (ci (HR I p 0 cs op sd dn bh co ar st 82 48 = 12) (bd (Call PG (d + 8) 220 [(2, 82), (0, 4), (0, HR I p 0 cs op sd dn bh co ar st 82 45)] (HR I p 0 cs op sd dn bh co ar st, RF sp rt tt z.1, z)) (fun v h => Run PG (Call PG (d + 8)) 218 65 [(2, 82), (0, qc (I 83) n p), (9, 0)] (v.toList ++ []) h (0, 0))) (Run PG (Call PG (d + 8)) 218 65 [(2, 82), (0, qc (I 83) n p), (9, 0)] [] (HR I p 0 cs op sd dn bh co ar st, RF sp rt tt z.1, z) (0, 0))) = some (none, (HR I p (fau 4 p) cs op sd dn bh co ar st, RF sp rt tt z.1, z)) := by
          rw [hr_o (Or.inr (by decide)) (by decide), hm, hr_p]
          refine ci_t (by omega) (bd_t (S_220 (by decide) (by omega)) ?_)
          rw [if_neg (show ¬ (0 : Int) < 0 by decide)]
          refine (T_218_65 ..).trans (bd_t S_217 ?_)
          refine (T_218_69 ..).trans ?_
          rw [bz_f (by omega)]
          exact ci_t rfl rfl
        refine (T_218_4 ..).trans ?_
        by_cases c1 : qc (I 83) n p = 100
        · exact ci_t c1 k5
        · by_cases c2 : qc (I 83) n p = 110
          · exact ci_f c1 (ci_t c2 k5)
          · by_cases c3 : qc (I 83) n p = 119
            · exact ci_f c1 (ci_f c2 (ci_t c3 k5))
            · by_cases c4 : qc (I 83) n p = 102
              · exact ci_f c1 (ci_f c2 (ci_f c3 (ci_t c4 k5)))
              · exact ci_f c1 (ci_f c2 (ci_f c3 (ci_f c4 (ci_t (by omega) k5))))
      exact q_tr k4 ⟨_, _, _, _, _, _, _, _, _, _, _, rfl, FRR_r, rfl, fun _ _ => ⟨rfl, rfl⟩⟩
    · rw [if_neg cm]
      have k4 : Run PG (Call PG (d + 8)) 218 4 [(2, 82), (9, 0), (9, 0)] [(0, qc (I 83) n p)] (HR I p 0 cs op sd dn bh co ar st, RF sp rt tt z.1, z) (0, 0) = Run PG (Call PG (d + 8)) 218 65 [(2, 82), (0, qc (I 83) n p), (9, 0)] [] (HR I p 0 cs op sd dn bh co ar st, RF sp rt tt z.1, z) (0, 0) := by
        have k5 : ∀ X, (ci (HR I p 0 cs op sd dn bh co ar st 82 48 = 12) X (Run PG (Call PG (d + 8)) 218 65 [(2, 82), (0, qc (I 83) n p), (9, 0)] [] (HR I p 0 cs op sd dn bh co ar st, RF sp rt tt z.1, z) (0, 0))) = Run PG (Call PG (d + 8)) 218 65 [(2, 82), (0, qc (I 83) n p), (9, 0)] [] (HR I p 0 cs op sd dn bh co ar st, RF sp rt tt z.1, z) (0, 0) := by
          intro X
          rw [hr_o (Or.inr (by decide)) (by decide), hm]
          exact ci_f (by omega) rfl
        refine (T_218_4 ..).trans ?_
        by_cases c1 : qc (I 83) n p = 100
        · exact ci_t c1 (k5 _)
        · by_cases c2 : qc (I 83) n p = 110
          · exact ci_f c1 (ci_t c2 (k5 _))
          · by_cases c3 : qc (I 83) n p = 119
            · exact ci_f c1 (ci_f c2 (ci_t c3 (k5 _)))
            · by_cases c4 : qc (I 83) n p = 102
              · exact ci_f c1 (ci_f c2 (ci_f c3 (ci_t c4 (k5 _))))
              · exact ci_f c1 (ci_f c2 (ci_f c3 (ci_f c4 (ci_t (by omega) (k5 _)))))
      refine q_tr (k4.trans (k218 h hm (by omega) (by omega))) ?_
      have c6 := C6 (I := I) (t := t) (m := m) (cs := cs) (x := qc (I 83) n p)
      generalize hI1 : up2 (up2 (up2 (up2 (up2 (up2 I 99 (12 * t + m) (qc (I 83) n p)) 100 (12 * t + m) 0) 101 (12 * t + m) 0) 102 (12 * t + m) 0) 103 (12 * t + m) 0) 104 (12 * t + m) (cs : Int) = I1 at *
      obtain ⟨f1, e99, e104, e48⟩ := c6
      have h1 := RX_f h f1
      have b1 := FRR_B f1
      have h48 : I1 82 48 = (m : Int) := e48.trans hm
      unfold CLAUSE
      by_cases c1 : qc (I 83) n p = 120
      · rw [if_pos c1]
        have f2 : FRR t m I (up2 I1 105 (12 * t + m) (cs : Int)) := FRR_t f1 (FRR_u (Or.inl (by omega)))
        have g2 : (up2 I1 105 (12 * t + m) (cs : Int)) 99 (12 * t + m) = qc (I 83) n p ∧ (up2 I1 105 (12 * t + m) (cs : Int)) 104 (12 * t + m) = (up2 I1 105 (12 * t + m) (cs : Int)) 105 (12 * t + m) ∧ (up2 I1 105 (12 * t + m) (cs : Int)) 82 48 = (m : Int) := by
          simp (disch := decide) only [up2_ne, up2_eq]
          exact ⟨e99, e104, h48⟩
        refine q_cf (by omega) (q_tr (k164 (by omega)) ?_)
        generalize hI2 : up2 I1 105 (12 * t + m) (cs : Int) = I2 at *
        have h2 := RX_f h f2
        have b2 := FRR_B f2
        rw [bz_t rfl]
        refine q_tr (T_218_178 ..) (q_cf (by decide) (q_cf (by omega) (q_cf (by omega) (q_ct c1 ?_))))
        obtain ⟨p1, v1, e1⟩ := S_227 (d := d + 4) (p := p + 1) (bad := 0) (cs := cs) (op := op) (sd := sd) (dn := dn) (bh := bh) (co := co) (ar := ar) (st := st) (sp := sp) (rt := rt) (tt := tt) (z := z) h2 rfl (by omega) (u := 29) (by decide)
        rw [b2] at e1
        unfold CLX
        have fin : ∀ (J : Nat → Nat → Int) (pe : Nat) (e : Int), e < 0 → FRR t m I J → J 82 48 = (m : Int) → RCr I sp rt tt z n t m p cs co ar (.inl e) (Run PG (Call PG (d + 8)) 218 237 [(2, 82), (0, qc (I 83) n p), (0, ((12 * t + m : Nat) : Int))] [] (HR J pe e cs op sd dn bh co ar st, RF sp rt tt z.1, z) (0, 0)) := by
          intro J pe e hne fj hj
          refine q_tr (T_218_237 ..) (q_bd S_217 (q_tr (T_218_241 ..) ?_))
          rw [bz_f (by omega), kend hj (by omega)]
          exact q_ct rfl ⟨_, _, _, _, _, _, _, _, _, _, _, rfl, FRR_t fj (FRR_u (Or.inr ⟨rfl, rfl⟩)), rfl, fun _ _ => ⟨rfl, rfl⟩⟩
        cases hn1 : NUMU (qc (I 83) n) 29 (p + 1) with
        | inl e0 =>
          rw [hn1] at e1
          have hneg : e0 < 0 := by
            have := (CLAUSE_ok hq p).1 e0
            unfold CLAUSE CLX at this
            rw [if_pos c1, hn1] at this
            exact this rfl
          refine q_bd e1 (q_tr (T_218_223 ..) (q_ct (by omega) ?_))
          rw [show (((12 * t + m : Nat) : Int)).toNat = 12 * t + m by omega, hw_I (Or.inl (by decide)) (by decide)]
          refine q_bd S_217 (q_tr (T_218_228 ..) ?_)
          rw [bz_f (by omega)]
          exact q_ct rfl (fin _ _ _ hneg (FRR_t f2 (FRR_u (Or.inl (by omega)))) ((up2_ne (by decide)).trans g2.2.2))
        | inr w =>
          obtain ⟨j, v⟩ := w
          rw [hn1] at e1
          have o1 := NUMU_ok hq hn1
          refine q_bd e1 (q_tr (T_218_223 ..) (q_ct (by omega) ?_))
          rw [show (((12 * t + m : Nat) : Int)).toNat = 12 * t + m by omega, hw_I (Or.inl (by decide)) (by decide)]
          refine q_bd S_217 (q_tr (T_218_228 ..) ?_)
          rw [bz_t rfl]
          have f3 : FRR t m I (up2 I2 100 (12 * t + m) v) := FRR_t f2 (FRR_u (Or.inl (by omega)))
          have h3 := RX_f h f3
          have b3 := FRR_B f3
          have g3 : (up2 I2 100 (12 * t + m) v) 82 48 = (m : Int) := (up2_ne (by decide)).trans g2.2.2
          have s239 := S_239 (d := d + 6) (p := j) (cs := cs) (op := op) (sd := sd) (dn := dn) (bh := bh) (co := co) (ar := ar) (st := st) (sp := sp) (rt := rt) (tt := tt) (z := z) h3 (by omega) (c := 46) (by decide)
          rw [b3] at s239
          refine q_cf (by decide) (q_bd s239 ?_)
          dsimp only
          by_cases c2 : qc (I 83) n j = 46
          · have hl2 := OQ_lt hq (by decide) c2
            rw [if_pos c2, if_pos c2]
            refine q_tr (T_218_237 ..) (q_bd S_217 (q_tr (T_218_241 ..) ?_))
            rw [bz_t rfl]
            obtain ⟨p2, v2, e2⟩ := S_227 (d := d + 4) (p := j + 1) (bad := 0) (cs := cs) (op := op) (sd := sd) (dn := dn) (bh := bh) (co := co) (ar := ar) (st := st) (sp := sp) (rt := rt) (tt := tt) (z := z) h3 rfl (by omega) (u := 11) (by decide)
            rw [b3] at e2
            refine q_cf (by decide) ?_
            cases hn2 : NUMU (qc (I 83) n) 11 (j + 1) with
            | inl e0 =>
              rw [hn2] at e2
              refine q_bd e2 (q_tr (T_218_255 ..) (q_ct (by omega) ?_))
              rw [show (((12 * t + m : Nat) : Int)).toNat = 12 * t + m by omega, hr_o (Or.inr (by decide)) (by decide), g3, w_n (by omega), hw_I (Or.inl (by decide)) (by decide), hw_I (Or.inr (by decide)) (by decide)]
              exact ⟨_, _, _, _, _, _, _, _, _, _, _, rfl, FRR_t f3 (FRR_t (FRR_u (Or.inl (by omega))) (FRR_u (Or.inr ⟨rfl, rfl⟩))), rfl, fun _ _ => ⟨rfl, rfl⟩⟩
            | inr w2 =>
              obtain ⟨j2, w⟩ := w2
              rw [hn2] at e2
              have o2 := NUMU_ok hq hn2
              refine q_bd e2 (q_tr (T_218_255 ..) (q_ct (by omega) ?_))
              rw [show (((12 * t + m : Nat) : Int)).toNat = 12 * t + m by omega, hr_o (Or.inr (by decide)) (by decide), g3, w_n (by omega), hw_I (Or.inl (by decide)) (by decide), hw_I (Or.inr (by decide)) (by decide)]
              refine ⟨_, j2, cs, _, _, _, _, _, _, _, _, rfl, FRR_t f3 (FRR_t (FRR_u (Or.inl (by omega))) (FRR_u (Or.inr ⟨rfl, rfl⟩))), rfl, rfl, by omega, fun _ _ => ⟨rfl, rfl⟩, ⟨?_, fun q => by rcases q with q | q <;> (change (120 : Int) = _ at q; omega), fun _ => ⟨?_, ?_⟩, fun q => by rcases q with q | q | q <;> (change (120 : Int) = _ at q; omega), fun _ => ?_⟩, ?_⟩
              · rw [up2_ne (by decide), up2_ne (by decide), up2_ne (by decide)]
                exact g2.1.trans c1
              · rw [up2_ne (by decide), up2_ne (by decide)]
                exact up2_eq
              · rw [up2_ne (by decide)]
                exact up2_eq
              · simp (disch := decide) only [up2_ne]
                exact g2.2.1
              · rw [up2_eq]
                omega
          · rw [if_neg c2, if_neg c2]
            exact fin _ _ _ (fau_neg (by decide) _) f3 g3
      · rw [if_neg c1]
        by_cases c2 : qc (I 83) n p = 102
        · rw [if_pos c2]
          have f2 : FRR t m I (up2 I1 105 (12 * t + m) (cs : Int)) := FRR_t f1 (FRR_u (Or.inl (by omega)))
          have g2 : (up2 I1 105 (12 * t + m) (cs : Int)) 99 (12 * t + m) = qc (I 83) n p ∧ (up2 I1 105 (12 * t + m) (cs : Int)) 104 (12 * t + m) = (up2 I1 105 (12 * t + m) (cs : Int)) 105 (12 * t + m) ∧ (up2 I1 105 (12 * t + m) (cs : Int)) 82 48 = (m : Int) := by
            simp (disch := decide) only [up2_ne, up2_eq]
            exact ⟨e99, e104, h48⟩
          refine q_cf (by omega) (q_tr (k164 (by omega)) ?_)
          generalize hI2 : up2 I1 105 (12 * t + m) (cs : Int) = I2 at *
          have h2 := RX_f h f2
          have b2 := FRR_B f2
          rw [bz_t rfl]
          refine q_tr (T_218_178 ..) (q_cf (by decide) (q_cf (by omega) (q_ct c2 ?_)))
          obtain ⟨p1, v1, e1⟩ := S_227 (d := d + 4) (p := p + 1) (bad := 0) (cs := cs) (op := op) (sd := sd) (dn := dn) (bh := bh) (co := co) (ar := ar) (st := st) (sp := sp) (rt := rt) (tt := tt) (z := z) h2 rfl (by omega) (u := 99999) (by decide)
          rw [b2, NUMU_all] at e1
          unfold CLF
          cases hn1 : NUM (qc (I 83) n) (p + 1) with
          | inl e0 =>
            rw [hn1] at e1
            refine q_bd e1 (q_tr (T_218_205 ..) (q_ct (by omega) (q_cf c1 ?_)))
            rw [show (((12 * t + m : Nat) : Int)).toNat = 12 * t + m by omega, hr_o (Or.inr (by decide)) (by decide), g2.2.2, w_n (by omega), hw_I (Or.inl (by decide)) (by decide), hw_I (Or.inr (by decide)) (by decide)]
            exact ⟨_, _, _, _, _, _, _, _, _, _, _, rfl, FRR_t f2 (FRR_t (FRR_u (Or.inl (by omega))) (FRR_u (Or.inr ⟨rfl, rfl⟩))), rfl, fun _ _ => ⟨rfl, rfl⟩⟩
          | inr w =>
            obtain ⟨j, v⟩ := w
            rw [hn1] at e1
            have o1 := (NUM_ok hq (p + 1)).2 _ _ hn1
            refine q_bd e1 (q_tr (T_218_205 ..) (q_ct (by omega) (q_cf c1 ?_)))
            rw [show (((12 * t + m : Nat) : Int)).toNat = 12 * t + m by omega, hr_o (Or.inr (by decide)) (by decide), g2.2.2, w_n (by omega), hw_I (Or.inl (by decide)) (by decide), hw_I (Or.inr (by decide)) (by decide)]
            refine ⟨_, j, cs, _, _, _, _, _, _, _, _, rfl, FRR_t f2 (FRR_t (FRR_u (Or.inl (by omega))) (FRR_u (Or.inr ⟨rfl, rfl⟩))), rfl, rfl, by omega, fun _ _ => ⟨rfl, rfl⟩, ⟨?_, fun _ => ?_, (fun q => by change (102 : Int) = 120 at q; omega), fun q => by rcases q with q | q | q <;> (change (102 : Int) = _ at q; omega), fun _ => ?_⟩, ?_⟩
            · rw [up2_ne (by decide), up2_ne (by decide)]
              exact g2.1.trans c2
            · rw [up2_ne (by decide)]
              exact up2_eq
            · simp (disch := decide) only [up2_ne]
              exact g2.2.1
            · rw [up2_eq]
              omega
        · have c3 : isC (qc (I 83) n p) := by omega
          rw [if_neg c2, if_pos c3]
          refine q_ct c3 ?_
          obtain ⟨J, p1, cs1, sd1, bad1, op1, dn1, bh1, co1, ar1, st1, e1, fJ, oc⟩ := R_221 (d := d) (op := op) (sd := sd) (dn := dn) (bh := bh) (co := co) (ar := ar) (st := st) (sp := sp) (rt := rt) (tt := tt) (z := z) (k := 12 * t + m) (p := p + 1) (cs := cs) h1 (by omega) (by omega) (by omega)
          rw [b1] at oc
          have f2 : FRR t m I (up2 J 105 (12 * t + m) (cs1 : Int)) := FRR_t f1 (FRR_t (FRR_2 fJ) (FRR_u (Or.inl (by omega))))
          have gJ : J 99 (12 * t + m) = qc (I 83) n p ∧ J 104 (12 * t + m) = (cs : Int) ∧ J 82 48 = (m : Int) := ⟨(fJ _ _ (by omega)).trans e99, (fJ _ _ (by omega)).trans e104, (fJ _ _ (by omega)).trans h48⟩
          have g2 : (up2 J 105 (12 * t + m) (cs1 : Int)) 99 (12 * t + m) = qc (I 83) n p ∧ (up2 J 105 (12 * t + m) (cs1 : Int)) 104 (12 * t + m) = (cs : Int) ∧ (up2 J 105 (12 * t + m) (cs1 : Int)) 105 (12 * t + m) = (cs1 : Int) ∧ (up2 J 105 (12 * t + m) (cs1 : Int)) 82 48 = (m : Int) := by
            simp (disch := decide) only [up2_ne, up2_eq]
            exact ⟨gJ.1, gJ.2.1, trivial, gJ.2.2⟩
          have g4 : (up2 J 105 (12 * t + m) (cs1 : Int)) 102 (12 * t + m) = J 102 (12 * t + m) ∧ (up2 J 105 (12 * t + m) (cs1 : Int)) 103 (12 * t + m) = J 103 (12 * t + m) := ⟨up2_ne (by decide), up2_ne (by decide)⟩
          refine q_bd e1 (q_tr (k164 (by omega)) ?_)
          generalize hI2 : up2 J 105 (12 * t + m) (cs1 : Int) = I2 at *
          have h2 := RX_f h f2
          have b2 := FRR_B f2
          unfold CLQ
          unfold CDP at oc
          have fin : ∀ e, (bad1 = e ∧ ∀ x, x < 160 * t → co1 x = co x ∧ ar1 x = ar x) → e < 0 → RCr I sp rt tt z n t m p cs co ar (.inl e) (Run PG (Call PG (d + 8)) 218 178 [(2, 82), (0, qc (I 83) n p), (0, ((12 * t + m : Nat) : Int))] [(0, bz (bad1 = 0))] (HR I2 p1 bad1 cs1 op1 sd1 dn1 bh1 co1 ar1 st1, RF sp rt tt z.1, z) (0, 0)) := by
            intro e hb hne
            obtain ⟨hb, ag⟩ := hb
            subst hb
            rw [bz_f (by omega)]
            refine q_tr (T_218_178 ..) (q_ct rfl (q_cf c1 ?_))
            rw [kend g2.2.2.2 (by omega)]
            exact ⟨_, _, _, _, _, _, _, _, _, _, _, rfl, FRR_t f2 (FRR_u (Or.inr ⟨rfl, rfl⟩)), rfl, ag⟩
          by_cases c4 : qc (I 83) n (p + 1) = 40
          · rw [if_pos c4] at oc ⊢
            have hcn := (COND_ok (q := qc (I 83) n) (PIECE_ok hq 5) (p + 1 + 1)).1
            cases hc : COND (qc (I 83) n) (PIECE (qc (I 83) n) 5) (p + 1 + 1) with
            | inl e0 =>
              rw [hc] at oc
              exact fin _ oc (hcn _ hc)
            | inr w =>
              obtain ⟨j, f⟩ := w
              rw [hc] at oc
              dsimp only at oc ⊢
              by_cases c5 : qc (I 83) n j = 41
              · have hl5 := OQ_lt hq (by decide) c5
                rw [if_pos c5] at oc ⊢
                obtain ⟨rfl, rfl, o1, o2, o3, o4, o5⟩ := oc
                rw [bz_t rfl]
                have kc : ∀ (x : Int) (I3 : Nat → Nat → Int), I3 = up2 (up2 I2 100 (12 * t + m) x) 82 48 ((m + 1 : Nat) : Int) ∨ (I3 = up2 I2 82 48 ((m + 1 : Nat) : Int) ∧ ¬ qc (I 83) n p = 119) → KR t m I3 co1 ar1 cs1 (qc (I 83) n p, x, 0, p + 1 + 1, j, f) ∧ I3 82 48 = (m : Int) + 1 := by
                  intro x I3 h3
                  have r : I3 99 (12 * t + m) = qc (I 83) n p ∧ (qc (I 83) n p = 119 → I3 100 (12 * t + m) = x) ∧ I3 102 (12 * t + m) = ((p + 1 : Nat) : Int) ∧ I3 103 (12 * t + m) = ((j + 1 : Nat) : Int) ∧ I3 104 (12 * t + m) = (cs : Int) ∧ I3 105 (12 * t + m) = (cs1 : Int) ∧ I3 82 48 = ((m + 1 : Nat) : Int) := by
                    rcases h3 with rfl | ⟨rfl, h119⟩
                    · simp (disch := decide) only [up2_ne, up2_eq]
                      exact ⟨g2.1, fun _ => trivial, g4.1.trans o4, g4.2.trans o5, g2.2.1, g2.2.2.1, trivial⟩
                    · simp (disch := decide) only [up2_ne, up2_eq]
                      exact ⟨g2.1, fun q => absurd q h119, g4.1.trans o4, g4.2.trans o5, g2.2.1, g2.2.2.1, trivial⟩
                  refine ⟨⟨r.1, fun q => r.2.1 (q.resolve_left c2), fun q => absurd q c1, fun _ => ⟨r.2.2.1.trans ?_, r.2.2.2.1.trans ?_, cs, cs1, r.2.2.2.2.1, r.2.2.2.2.2.1, Nat.le_refl _, o3⟩, fun q => absurd c3 q⟩, r.2.2.2.2.2.2.trans ?_⟩
                  · show _ = ((p + 1 + 1 : Nat) : Int) - 1
                    omega
                  · show _ = ((j : Nat) : Int) + 1
                    omega
                  · omega
                by_cases c6 : qc (I 83) n p = 119
                · rw [if_pos c6]
                  refine q_tr (T_218_178 ..) (q_cf (by decide) (q_ct c6 ?_))
                  obtain ⟨p2, v2, e2⟩ := S_227 (d := d + 4) (p := j + 1) (bad := 0) (cs := cs1) (op := op1) (sd := sd1) (dn := dn1) (bh := bh1) (co := co1) (ar := ar1) (st := st1) (sp := sp) (rt := rt) (tt := tt) (z := z) h2 rfl (by omega) (u := 99999) (by decide)
                  rw [b2, NUMU_all] at e2
                  unfold CLW
                  cases hn1 : NUM (qc (I 83) n) (j + 1) with
                  | inl e0 =>
                    rw [hn1] at e2
                    refine q_bd e2 (q_tr (T_218_205 ..) (q_ct (by omega) (q_cf c1 ?_)))
                    rw [show (((12 * t + m : Nat) : Int)).toNat = 12 * t + m by omega, hr_o (Or.inr (by decide)) (by decide), g2.2.2.2, w_n (by omega), hw_I (Or.inl (by decide)) (by decide), hw_I (Or.inr (by decide)) (by decide)]
                    exact ⟨_, _, _, _, _, _, _, _, _, _, _, rfl, FRR_t f2 (FRR_t (FRR_u (Or.inl (by omega))) (FRR_u (Or.inr ⟨rfl, rfl⟩))), rfl, fun x hx => o2 x (by omega)⟩
                  | inr w =>
                    obtain ⟨j2, v⟩ := w
                    rw [hn1] at e2
                    have o6 := (NUM_ok hq (j + 1)).2 _ _ hn1
                    refine q_bd e2 (q_tr (T_218_205 ..) (q_ct (by omega) (q_cf c1 ?_)))
                    rw [show (((12 * t + m : Nat) : Int)).toNat = 12 * t + m by omega, hr_o (Or.inr (by decide)) (by decide), g2.2.2.2, w_n (by omega), hw_I (Or.inl (by decide)) (by decide), hw_I (Or.inr (by decide)) (by decide)]
                    have kk := kc v _ (Or.inl rfl)
                    exact ⟨_, j2, cs1, _, _, _, _, _, _, _, _, rfl, FRR_t f2 (FRR_t (FRR_u (Or.inl (by omega))) (FRR_u (Or.inr ⟨rfl, rfl⟩))), rfl, rfl, by omega, o2, kk.1, kk.2⟩
                · rw [if_neg c6]
                  refine q_tr (T_218_178 ..) (q_cf (by decide) (q_cf c6 (q_cf c2 (q_cf c1 ?_))))
                  rw [kend g2.2.2.2 (by omega)]
                  have kk := kc 0 _ (Or.inr ⟨rfl, c6⟩)
                  exact ⟨_, j + 1, cs1, _, _, _, _, _, _, _, _, rfl, FRR_t f2 (FRR_u (Or.inr ⟨rfl, rfl⟩)), rfl, rfl, by omega, o2, kk.1, kk.2⟩
              · rw [if_neg c5] at oc ⊢
                exact fin _ oc (fau_neg (by decide) _)
          · rw [if_neg c4] at oc ⊢
            exact fin _ oc (fau_neg (by decide) _)
  · have hx : (if m = 12 then (.inl (if isL (qc (I 83) n p) then fau 4 p else fau 1 p) : Int ⊕ (Nat × CLM)) else CLAUSE (qc (I 83) n) p) = .inl (fau 1 p) := by
      unfold CLAUSE
      by_cases cm : m = 12
      · rw [if_pos cm, if_neg hL0]
      · rw [if_neg cm, if_neg (by omega), if_neg (by omega), if_neg (by omega)]
    rw [hx]
    have hn1 := fau_neg (f := 1) (by decide) p
    refine q_tr (T_218_4 ..) (q_cf (by omega) (q_cf (by omega) (q_cf (by omega) (q_cf (by omega) (q_cf (by omega) ?_)))))
    rw [hr_p]
    refine q_bd (S_220 (by decide) (by omega)) (q_tr (T_218_44 ..) (q_tr (T_218_65 ..) (q_bd S_217 (q_tr (T_218_69 ..) ?_))))
    rw [if_neg (show ¬ (0 : Int) < 0 by decide), bz_f (by omega)]
    exact q_ct rfl ⟨_, _, _, _, _, _, _, _, _, _, _, rfl, FRR_r, rfl, fun _ _ => ⟨rfl, rfl⟩⟩
end RG0

