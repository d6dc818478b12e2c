/-! what holds of nets; the known air, the reference's least air -/
def mkI (M : Nat → Nat → Bool) (I : Nat → Nat → Int) : Nat → Nat → Int := fun a j => if M a j = true then I a j else 0
theorem mkI_eq {M : Nat → Nat → Bool} {I J : Nat → Nat → Int} (h : ∀ a j, M a j = true → J a j = I a j) : mkI M J = mkI M I := by
  funext a j
  unfold mkI
  by_cases c : M a j = true
  · rw [if_pos c, if_pos c, h a j c]
  · rw [if_neg c, if_neg c]
/-- places of nets -/
def MN (a j : Nat) : Bool := decide ((a = 25 ∧ j ≤ 1) ∨ (26 ≤ a ∧ a ≤ 29) ∨ (32 ≤ a ∧ a ≤ 34) ∨ (39 ≤ a ∧ a ≤ 41) ∨ (114 ≤ a ∧ a ≤ 123) ∨ (a = 82 ∧ (j = 6 ∨ j = 7)) ∨ (a = 2 ∧ j = 6))
/-- places of the simple things -/
def MI (a j : Nat) : Bool := decide (¬ (a = 25 ∧ ¬ j = 0) ∧ ¬ (26 ≤ a ∧ a ≤ 44) ∧ ¬ (115 ≤ a ∧ a ≤ 129) ∧ ¬ a = 114 ∧ ¬ (9 ≤ a ∧ a ≤ 24) ∧ ¬ (94 ≤ a ∧ a ≤ 113) ∧ ¬ 163 ≤ a ∧ ¬ (a = 82 ∧ (j = 5 ∨ j = 6 ∨ j = 7)) ∧ ¬ (a = 82 ∧ 45 ≤ j) ∧ ¬ a = 73 ∧ ¬ a = 157 ∧ ¬ a = 158)
/-- places of texts -/
def MX (a j : Nat) : Bool := decide (a = 9 ∨ (12 ≤ a ∧ a ≤ 21) ∨ 163 ≤ a ∨ (94 ≤ a ∧ a ≤ 107) ∨ (a = 82 ∧ (j = 5 ∨ j = 51)))
theorem InvS_m {I J : Nat → Nat → Int} (h : mkI MI J = mkI MI I) (H : InvS I) : InvS J := by
  have h1 : InvS (mkI MI I) := H
  rw [← h] at h1
  exact h1
def GN0 (I : Nat → Nat → Int) : Prop :=
  ((I 82 6 = I 25 0 ∧ 0 ≤ I 25 0 ∧ I 25 0 ≤ 80) ∧ (I 82 7 = I 25 1 ∧ 0 ≤ I 25 1 ∧ I 25 1 ≤ 150)) ∧
  ((∀ j, I 114 j = I 33 j) ∧ (∀ j, I 121 j = I 26 j)) ∧
  (∀ p : Nat, p < (I 2 6).toNat → I 115 p = I 34 p ∧ I 116 p = I 39 p ∧ (¬ I 39 p = -1 → I 117 p = I 40 p ∧ I 118 p = I 41 p)) ∧
  (∀ p : Nat, (I 2 6).toNat ≤ p → p < 12 → I 34 p = -1 ∧ I 39 p = -1) ∧
  (∀ x : Nat, x < (I 25 0).toNat → (0 ≤ I 33 x ∧ I 33 x < I 2 6) ∧ 0 ≤ I 34 (I 33 x).toNat ∧ I 34 (I 33 x).toNat < I 25 0) ∧
  CN (I 119) (I 120) (I 25 0).toNat (I 25 1).toNat (I 27) (I 28) (I 29) ∧
  (I 29 0 = 0 ∧ I 29 (I 25 0).toNat = 2 * I 25 1 ∧ ∀ p : Nat, p < (I 2 6).toNat → I 34 p = -1 ∨ (0 ≤ I 34 p ∧ I 34 p < I 25 0)) ∧
  (∀ r : Nat, r < (I 25 1).toNat → I 33 (I 119 r).toNat = I 33 (I 120 r).toNat ∧ (1 ≤ I 26 r ∧ I 26 r ≤ 100) ∧ ((I 32 r = 0 ∧ I 122 r = 0 ∧ I 123 r = 1) ∨ (I 32 r = 1 ∧ I 122 r = 1 ∧ I 123 r = 0) ∨ (I 32 r = 2 ∧ I 122 r = 1 ∧ I 123 r = 1))) ∧
  (∀ p : Nat, p < (I 2 6).toNat → FN I (I 25 0).toNat p)
def LVc (I : Nat → Nat → Int) (p : Int) : Int := if I 39 p.toNat = -1 then -1 else LAV (I 119) (I 33) (AIRO (I 119) (I 120) (I 26) (ok1 I) (I 25 1).toNat (I 25 0).toNat (I 39 p.toNat) (I 40 p.toNat) (I 41 p.toNat)) (ok1 I) (I 25 1).toNat p
def ARc (I : Nat → Nat → Int) (p : Int) (r : Nat) : Int := if I 39 p.toNat = -1 then 0 else AIRO (I 119) (I 120) (I 26) (ok1 I) (I 25 1).toNat (I 25 0).toNat (I 39 p.toNat) (I 40 p.toNat) (I 41 p.toNat) r
def FWc (I : Nat → Nat → Int) (p : Int) : Int := FWV (I 119) (I 120) (I 33) (I 34) (I 25 1).toNat (I 25 0).toNat p
/-- what is known is so -/
def GK (I : Nat → Nat → Int) : Prop :=
  (∀ p : Nat, p < 12 → I 37 p = -2 ∨ I 37 p = FWc I p) ∧
  (∀ p : Nat, p < 12 → I 44 p = -2 ∨ (I 44 p = LVc I p ∧ ∀ r : Nat, r < (I 25 1).toNat → I 33 (I 119 r).toNat = p → I 42 r = ARc I p r))
theorem GN0_m {I J : Nat → Nat → Int} (h : mkI MN J = mkI MN I) (H : GN0 I) : GN0 J := by
  have h1 : GN0 (mkI MN I) := H
  rw [← h] at h1
  exact h1
theorem LVc_m {I J : Nat → Nat → Int} (h : mkI MN J = mkI MN I) (p : Int) : LVc J p = LVc I p := by
  have h1 : LVc (mkI MN J) p = LVc J p := rfl
  have h2 : LVc (mkI MN I) p = LVc I p := rfl
  rw [← h1, ← h2, h]
theorem ARc_m {I J : Nat → Nat → Int} (h : mkI MN J = mkI MN I) (p : Int) (r : Nat) : ARc J p r = ARc I p r := by
  have h1 : ARc (mkI MN J) p r = ARc J p r := rfl
  have h2 : ARc (mkI MN I) p r = ARc I p r := rfl
  rw [← h1, ← h2, h]
theorem FWc_m {I J : Nat → Nat → Int} (h : mkI MN J = mkI MN I) (p : Int) : FWc J p = FWc I p := by
  have h1 : FWc (mkI MN J) p = FWc J p := rfl
  have h2 : FWc (mkI MN I) p = FWc I p := rfl
  rw [← h1, ← h2, h]
theorem MN_c {a j : Nat} (h : MN a j = true) : ¬ a = 30 ∧ ¬ a = 31 ∧ ¬ a = 35 ∧ ¬ a = 36 ∧ ¬ a = 43 ∧ ¬ (a = 25 ∧ j = 8) ∧ ¬ a = 37 ∧ ¬ a = 42 ∧ ¬ a = 44 ∧ ¬ (124 ≤ a ∧ a ≤ 129) := by
  have := of_decide_eq_true h
  omega
theorem MI_c {a j : Nat} (h : MI a j = true) : ¬ a = 30 ∧ ¬ a = 31 ∧ ¬ a = 35 ∧ ¬ a = 36 ∧ ¬ a = 43 ∧ ¬ (a = 25 ∧ j = 8) ∧ ¬ a = 37 ∧ ¬ a = 42 ∧ ¬ a = 44 ∧ ¬ (124 ≤ a ∧ a ≤ 129) := by
  have := of_decide_eq_true h
  omega
theorem MX_c {a j : Nat} (h : MX a j = true) : ¬ a = 30 ∧ ¬ a = 31 ∧ ¬ a = 35 ∧ ¬ a = 36 ∧ ¬ a = 43 ∧ ¬ (a = 25 ∧ j = 8) ∧ ¬ a = 37 ∧ ¬ a = 42 ∧ ¬ a = 44 ∧ ¬ (124 ≤ a ∧ a ≤ 129) := by
  have := of_decide_eq_true h
  omega
/-- nothing but what is reckoned anew has changed, and what is known -/
def FRn (I J : Nat → Nat → Int) : Prop := ∀ a j : Nat, ¬ a = 30 → ¬ a = 31 → ¬ a = 35 → ¬ a = 36 → ¬ a = 43 → ¬ (a = 25 ∧ j = 8) → ¬ a = 37 → ¬ a = 42 → ¬ a = 44 → ¬ (124 ≤ a ∧ a ≤ 129) → J a j = I a j
theorem FRn_r {I : Nat → Nat → Int} : FRn I I := fun _ _ _ _ _ _ _ _ _ _ _ _ => rfl
theorem FRn_t {I J K : Nat → Nat → Int} (h : FRn I J) (h2 : FRn J K) : FRn I K := fun a j q1 q2 q3 q4 q5 q6 q7 q8 q9 q10 => (h2 a j q1 q2 q3 q4 q5 q6 q7 q8 q9 q10).trans (h a j q1 q2 q3 q4 q5 q6 q7 q8 q9 q10)
theorem FRn_c {I J : Nat → Nat → Int} (h : FRc I J) : FRn I J := fun a j q1 q2 q3 q4 q5 q6 _ _ _ _ => h a j q1 q2 q3 q4 q5 q6
theorem FRn_m {I J : Nat → Nat → Int} (h : FRr I J) : FRn I J := fun a j _ _ _ _ _ _ _ _ _ q => h a j q
theorem FRn_37 {I : Nat → Nat → Int} {p : Nat} {v : Int} : FRn I (up2 I 37 p v) := fun a j _ _ _ _ _ _ q _ _ _ => up2_ne q
theorem FRn_44 {I : Nat → Nat → Int} {p : Nat} {v : Int} : FRn I (up2 I 44 p v) := fun a j _ _ _ _ _ _ _ _ q _ => up2_ne q
theorem FRn_42 {I : Nat → Nat → Int} {o : Nat → Int} : FRn I (pc I 42 o) := fun a j _ _ _ _ _ _ _ q _ _ => pc_ne q
theorem FRn_N {I J : Nat → Nat → Int} (h : FRn I J) : mkI MN J = mkI MN I := mkI_eq (fun a j hm => by
  obtain ⟨q1, q2, q3, q4, q5, q6, q7, q8, q9, q10⟩ := MN_c hm
  exact h a j q1 q2 q3 q4 q5 q6 q7 q8 q9 q10)
theorem FRn_I {I J : Nat → Nat → Int} (h : FRn I J) : mkI MI J = mkI MI I := mkI_eq (fun a j hm => by
  obtain ⟨q1, q2, q3, q4, q5, q6, q7, q8, q9, q10⟩ := MI_c hm
  exact h a j q1 q2 q3 q4 q5 q6 q7 q8 q9 q10)
theorem FRn_X {I J : Nat → Nat → Int} (h : FRn I J) : mkI MX J = mkI MX I := mkI_eq (fun a j hm => by
  obtain ⟨q1, q2, q3, q4, q5, q6, q7, q8, q9, q10⟩ := MX_c hm
  exact h a j q1 q2 q3 q4 q5 q6 q7 q8 q9 q10)
/-- a call of nets: what both answer, and what holds behind it -/
def OpN (mc mm : Nat) (as : List AV) (I : Nat → Nat → Int) (sp rt : Nat) (tt : Nat → Nat) (z : Zs) : Prop :=
  ∃ (v : Int) (I1 I2 : Nat → Nat → Int), Call PG 300 mc ((2, 0) :: as) (I, RF sp rt tt z.1, z) = some (some (0, v), (I1, RF sp rt tt z.1, z)) ∧ Call PG 300 mm ((2, 82) :: as) (I1, RF sp rt tt z.1, z) = some (some (0, v), (I2, RF sp rt tt z.1, z)) ∧ InvS I2 ∧ (GN0 I2 ∧ GK I2) ∧ mkI MX I2 = mkI MX I
section N1
variable {d : Nat} {I : Nat → Nat → Int} {sp rt : Nat} {tt : Nat → Nat} {z : Zs}
theorem S_254 {P m : Nat} {p t : Int} (hv : NV (I 119) (I 120) m P) (hP : I 82 6 = P ∧ P ≤ 80) (hm : I 82 7 = m ∧ m ≤ 150) (hp : 0 ≤ p ∧ p < 12) (hw : ∀ r, r < m → 1 ≤ I 121 r ∧ I 121 r ≤ 100) (hf : FNr I P p) :
    ∃ J, Call PG (d + 5) 254 [(2, 82), (0, p), (0, t)] (I, RF sp rt tt z.1, z) = some (some (0, if I 116 p.toNat = -1 then -1 else LAV (I 119) (I 114) (AIRO (I 119) (I 120) (I 121) (ok2 I t) m P (I 116 p.toNat) (I 117 p.toNat) (I 118 p.toNat)) (ok2 I t) m p), (J, RF sp rt tt z.1, z)) ∧ FRr I J := by
  by_cases c0 : I 116 p.toNat = -1
  · rw [if_pos c0]
    exact ⟨I, (K_254 ..).trans ((T_254_0 ..).trans (ci_t hp (ci_t c0 rfl))), FRr_r⟩
  · rw [if_neg c0]
    obtain ⟨J, h1, h2, h3⟩ := S_255 (d := d) (sp := sp) (rt := rt) (tt := tt) (z := z) (t := t) hv hP hm hp hw hf
    refine ⟨J, (K_254 ..).trans ((T_254_0 ..).trans (ci_t hp (ci_f c0 (bd_t h1 ((T_254_20 ..).trans ?_))))), h2⟩
    have e119 : J 119 = I 119 := FRr_f h2 (by decide)
    have e114 : J 114 = I 114 := FRr_f h2 (by decide)
    have e123 : J 123 = I 123 := FRr_f h2 (by decide)
    have e7 : J 82 7 = I 82 7 := h2 82 7 (by decide)
    have eok : ∀ r, (r < m) → (ok2 I t r = true ↔ ((r : Int) = t ∧ ¬ J 123 r = 1 ∨ ¬ (r : Int) = t ∧ ¬ J 123 r = 0)) := fun r hr => by unfold ok2; rw [decide_eq_true_iff, e123]
    rw [LAV_cg (o' := J 127) (ok' := ok2 I t) (fun r hr _ => by rw [h3 r hr, if_neg c0]) (fun _ _ => rfl)]
    refine loop_p (fun (r : Nat) (a : Int) => if I 114 (I 119 r).toNat = p ∧ ok2 I t r = true ∧ (a = -1 ∨ J 127 r < a) then J 127 r else a) (fun (r : Nat) (a : Int) => Run PG (Call PG (d + 4)) 254 23 [(2, 82), (0, p), (0, t), (0, a), (0, (r : Int))] [] (J, RF sp rt tt z.1, z) (0, 0) = some (some (0, LAV (I 119) (I 114) (J 127) (ok2 I t) m p), (J, RF sp rt tt z.1, z))) m (-1) ?_ ?_
    · intro r a hr _ ih
      have ih : Run PG (Call PG (d + 4)) 254 23 [(2, 82), (0, p), (0, t), (0, if I 114 (I 119 r).toNat = p ∧ ok2 I t r = true ∧ (a = -1 ∨ J 127 r < a) then J 127 r else a), (0, ((r + 1 : Nat) : Int))] [] (J, RF sp rt tt z.1, z) (0, 0) = some (some (0, LAV (I 119) (I 114) (J 127) (ok2 I t) m p), (J, RF sp rt tt z.1, z)) := ih
      have hr150 : 0 ≤ (r : Int) ∧ (r : Int) < 150 := ⟨Int.natCast_nonneg _, by omega⟩
      have e1 : ∀ _ : Unit, w32 ((r : Int) + 1) = ((r + 1 : Nat) : Int) := fun _ => ws_n (by omega)
      have nv := hv r hr
      refine (T_254_23 ..).trans ?_
      refine ci_t (by rw [e7]; omega) ?_
      refine ci_t hr150 ?_
      rw [e119, e114, Int.toNat_natCast]
      refine ci_t (by omega) ?_
      by_cases c1 : I 114 (I 119 r).toNat = p
      · refine ci_t c1 ?_
        refine bd_t (S_258 hr150) ?_
        refine (T_254_55 ..).trans ?_
        by_cases c2 : ok2 I t r = true
        · refine ci_bf ((eok r hr).mp c2) ?_
          by_cases c3 : a = -1
          · rw [if_pos ⟨c1, c2, Or.inl c3⟩] at ih
            refine ci_t c3 ?_
            refine ci_t hr150 ?_
            rw [e1 ()]
            exact ih
          · refine ci_f c3 ?_
            refine ci_t hr150 ?_
            by_cases c4 : J 127 r < a
            · rw [if_pos ⟨c1, c2, Or.inr c4⟩] at ih
              refine ci_t c4 ?_
              refine ci_t hr150 ?_
              rw [e1 ()]
              exact ih
            · rw [if_neg (fun q => by rcases q.2.2 with w | w; exact c3 w; exact c4 w)] at ih
              refine ci_f c4 ?_
              rw [e1 ()]
              exact ih
        · refine ci_bt (fun q => c2 ((eok r hr).mpr q)) ?_
          rw [if_neg (fun q => c2 q.2.1)] at ih
          rw [e1 ()]
          exact ih
      · refine ci_f c1 ?_
        rw [if_neg (fun q => c1 q.1)] at ih
        rw [e1 ()]
        exact ih
    · refine (T_254_23 ..).trans ?_
      exact ci_f (by rw [e7]; omega) rfl
/-- the class's known least air -/
theorem S_58 {p : Int} (hn : GN0 I) (hk : GK I) (hp : 0 ≤ p ∧ p < I 2 6) (hp2 : I 2 6 ≤ 12) : ∃ J, Call PG (d + 5) 58 [(2, 38), (2, 25), (0, p)] (I, RF sp rt tt z.1, z) = some (some (0, LVc I p), (J, RF sp rt tt z.1, z)) ∧ FRn I J ∧ J 37 = I 37 ∧ GK J ∧ ∀ r : Nat, r < (I 25 1).toNat → I 33 (I 119 r).toNat = p → J 42 r = ARc I p r := by
  obtain ⟨⟨g1, g2⟩, g3, g4, g5, g6, g7, g8, g9, g10⟩ := hn
  have hp12 : 0 ≤ p ∧ p < 12 := by omega
  have epp : ((p.toNat : Nat) : Int) = p := by omega
  by_cases c : I 44 p.toNat = -2
  · have h59 := S_59 (d := d) (I := I) (sp := sp) (rt := rt) (tt := tt) (z := z) (p := p) g7 (by omega) hp12 (fun r hr => (g9 r hr).2.1) (fun r hr => (g9 r hr).1) (by have := g10 p.toNat (by omega); rw [epp] at this; exact this)
    obtain ⟨J, h1, h2, h3, h4⟩ := h59
    refine ⟨up2 J 44 p.toNat (LVc I p), (K_58 ..).trans ((T_58_0 ..).trans (ci_t hp12 (ci_t c (bd_t h1 ((T_58_22 ..).trans (ci_t hp12 (ci_t hp12 ?_))))))), ?_, ?_, ?_, ?_⟩
    · rw [up2_eq]; rfl
    · exact FRn_t (FRn_t FRn_42 (FRn_c h2)) FRn_44
    · funext j
      rw [up2_ne (by decide), h2 37 j (by decide) (by decide) (by decide) (by decide) (by decide) (by omega)]
      rfl
    · have hF : FRn I (up2 J 44 p.toNat (LVc I p)) := FRn_t (FRn_t FRn_42 (FRn_c h2)) FRn_44
      have hM := FRn_N hF
      have e25 : up2 J 44 p.toNat (LVc I p) 25 1 = I 25 1 := hF 25 1 (by decide) (by decide) (by decide) (by decide) (by decide) (by decide) (by decide) (by decide) (by decide) (by decide)
      have e33 : up2 J 44 p.toNat (LVc I p) 33 = I 33 := funext fun j => hF 33 j (by decide) (by decide) (by decide) (by decide) (by decide) (by omega) (by decide) (by decide) (by decide) (by decide)
      have e119 : up2 J 44 p.toNat (LVc I p) 119 = I 119 := funext fun j => hF 119 j (by decide) (by decide) (by decide) (by decide) (by decide) (by omega) (by decide) (by decide) (by decide) (by decide)
      have e37 : ∀ j, up2 J 44 p.toNat (LVc I p) 37 j = I 37 j := fun j => by
        rw [up2_ne (by decide), h2 37 j (by decide) (by decide) (by decide) (by decide) (by decide) (by omega)]
        rfl
      have e44 : ∀ j, up2 J 44 p.toNat (LVc I p) 44 j = if j = p.toNat then LVc I p else I 44 j := fun j => by
        rw [up2_at, h2 44 j (by decide) (by decide) (by decide) (by decide) (by decide) (by omega)]
        rfl
      have e42 : ∀ j, up2 J 44 p.toNat (LVc I p) 42 j = J 42 j := fun j => up2_ne (by decide)
      constructor
      · intro q hq
        rw [e37, FWc_m hM]
        exact hk.1 q hq
      · intro q hq
        rw [e44, e25, e33, e119, LVc_m hM]
        by_cases w : q = p.toNat
        · rw [if_pos w]
          right
          rw [w, epp]
          refine ⟨rfl, fun r hr e => ?_⟩
          rw [e42, ARc_m hM]
          exact h3 r hr e
        · rw [if_neg w]
          rcases hk.2 q hq with u | ⟨u1, u2⟩
          · exact Or.inl u
          · refine Or.inr ⟨u1, fun r hr e => ?_⟩
            rw [e42, ARc_m hM, h4 r hr (fun v => w (by omega))]
            exact u2 r hr e
    · intro r hr e
      rw [up2_ne (by decide)]
      exact h3 r hr e
  · have hc := hk.2 p.toNat (by omega)
    rw [epp] at hc
    rcases hc with q | ⟨q1, q2⟩
    · exact absurd q c
    · refine ⟨I, (K_58 ..).trans ((T_58_0 ..).trans (ci_t hp12 (ci_f c (ci_t hp12 ?_)))), FRn_r, rfl, hk, q2⟩
      rw [q1]
end N1

