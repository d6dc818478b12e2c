/-! the class's splitAll, whole; its known least air -/
theorem okc_0 {I : Nat → Nat → Int} : okc I 0 = ok1 I := by
  funext r
  unfold okc ok1
  by_cases c : I 32 r = 1 <;> simp [c]
theorem FRc_AC {I : Nat → Nat → Int} {o1 o c : Nat → Int} {S : ST} : FRc (pc I 42 o) (AC (BH (pc I 42 o1) S) o c) := fun a j h1 h2 h3 h4 h5 h6 => by
  unfold AC BH
  rw [pc_ne h5]
  by_cases q : a = 42
  · subst q
    rw [pc_at, pc_at]
  · rw [pc_ne q, pc_ne h1, pc_ne h2, up2_def, if_neg h6, pc_ne q, pc_ne q]
theorem FRc_BH2 {I : Nat → Nat → Int} {o1 : Nat → Int} {S : ST} : FRc (pc I 42 o1) (BH (pc I 42 o1) S) := FRc_BH FRc_r
def FN (I : Nat → Nat → Int) (P : Nat) (p : Int) : Prop := I 39 p.toNat = -1 ∨ ((0 ≤ I 39 p.toNat ∧ I 39 p.toNat < P) ∧ (0 ≤ I 40 p.toNat ∧ I 40 p.toNat < P) ∧ (0 ≤ I 41 p.toNat ∧ I 41 p.toNat ≤ 1000000) ∧ I 33 (I 39 p.toNat).toNat = p ∧ I 33 (I 40 p.toNat).toNat = p)
section B2
variable {d : Nat} {I : Nat → Nat → Int} {sp rt : Nat} {tt : Nat → Nat} {z : Zs}
theorem S_59 {A B : Nat → Int} {P m : Nat} {p : Int} (hC : CN A B P m (I 27) (I 28) (I 29)) (h1 : I 25 1 = m) (hp : 0 ≤ p ∧ p < 12) (hw : ∀ r, r < m → 1 ≤ I 26 r ∧ I 26 r ≤ 100) (hpp : ∀ r, r < m → I 33 (A r).toNat = I 33 (B r).toNat) (hf : FN I P p) :
    ∃ J, Call PG (d + 4) 59 [(2, 38), (2, 25), (0, p)] (I, RF sp rt tt z.1, z) = some (some (0, if I 39 p.toNat = -1 then -1 else LAV A (I 33) (AIRO A B (I 26) (ok1 I) m P (I 39 p.toNat) (I 40 p.toNat) (I 41 p.toNat)) (ok1 I) m p), (J, RF sp rt tt z.1, z)) ∧ FRc (pc I 42 (J 42)) J ∧
      (∀ r, r < m → I 33 (A r).toNat = p → J 42 r = if I 39 p.toNat = -1 then 0 else AIRO A B (I 26) (ok1 I) m P (I 39 p.toNat) (I 40 p.toNat) (I 41 p.toNat) r) ∧ (∀ r, r < m → ¬ I 33 (A r).toNat = p → J 42 r = I 42 r) := by
  obtain ⟨hv, hP, hm⟩ := hC.1
  obtain ⟨o1, ho1⟩ : ∃ o1, o1 = ov2 (I 42) (fun q => decide (I 33 (A q).toNat = p)) (fun _ => 0) m := ⟨_, rfl⟩
  have o1a : ∀ r, r < m → I 33 (A r).toNat = p → o1 r = 0 := fun r hr e => by rw [ho1]; exact ov2_in hr (decide_eq_true e)
  have o1b : ∀ r, r < m → ¬ I 33 (A r).toNat = p → o1 r = I 42 r := fun r hr e => by rw [ho1]; exact if_neg (fun q => e (of_decide_eq_true q.2))
  have hstart : ∀ R, Run PG (Call PG (d + 3)) 59 2 [(2, 38), (2, 25), (0, p), (0, (m : Int))] [] (pc I 42 o1, RF sp rt tt z.1, z) (0, 0) = R → Call PG (d + 4) 59 [(2, 38), (2, 25), (0, p)] (I, RF sp rt tt z.1, z) = R := by
    intro R hR
    refine (K_59 ..).trans ?_
    refine (T_59_0 ..).trans ?_
    have h := loop_c (fun r => Run PG (Call PG (d + 3)) 59 2 [(2, 38), (2, 25), (0, p), (0, (r : Int))] [] (pc I 42 (ov2 (I 42) (fun q => decide (I 33 (A q).toNat = p)) (fun _ => 0) r), RF sp rt tt z.1, z) (0, 0) = R) m ?_ ?_
    · rw [ov2_0, pc_self] at h
      exact h
    · intro r hr ih
      have hr150 : 0 ≤ (r : Int) ∧ (r : Int) < 150 := ⟨Int.natCast_nonneg _, by omega⟩
      refine (T_59_2 ..).trans ?_
      refine ci_t (show (r : Int) < I 25 1 by omega) ?_
      refine bd_t (S_60 (I := pc I 42 (ov2 (I 42) (fun q => decide (I 33 (A q).toNat = p)) (fun _ => 0) r)) hC hr) ?_
      refine (T_59_15 ..).trans ?_
      rw [ws_n (by omega)]
      by_cases c : I 33 (A r).toNat = p
      · refine ci_t c ?_
        refine ci_t hr150 ?_
        rw [up2_pc, Int.toNat_natCast, show ud (ov2 (I 42) (fun q => decide (I 33 (A q).toNat = p)) (fun _ => 0) r) r 0 = ov2 (I 42) (fun q => decide (I 33 (A q).toNat = p)) (fun _ => 0) (r + 1) from ov2_on (v := fun _ => 0) (decide_eq_true c)]
        exact ih
      · refine ci_f c ?_
        rw [ov2_off (fun q => c (of_decide_eq_true q))] at ih
        exact ih
    · rw [← ho1]; exact hR
  by_cases c0 : I 39 p.toNat = -1
  · rw [if_pos c0]
    refine ⟨pc I 42 o1, hstart _ ((T_59_2 ..).trans (ci_f (show ¬ (m : Int) < I 25 1 by omega) (ci_t hp (ci_t c0 rfl)))), ?_, fun r hr e => ?_, fun r hr e => o1b r hr e⟩
    · rw [show pc I 42 o1 42 = o1 from funext fun j => pc_at]; exact FRc_r
    · rw [if_pos c0]; exact o1a r hr e
  · rw [if_neg c0]
    rcases hf with hf | ⟨f1, f2, f3, f4, f5⟩
    · exact absurd hf c0
    have h61 := S_61 (d := d + 1) (I := pc I 42 o1) (sp := sp) (rt := rt) (tt := tt) (z := z) (A := A) (B := B) (P := P) (m := m) (a := I 40 p.toNat) (all := 0) hC f2
    rw [okc_0, show ok1 (pc I 42 o1) = ok1 I from rfl, show pc I 42 o1 30 = I 30 from rfl, show pc I 42 o1 31 = I 31 from rfl] at h61
    have hff : ∀ b, b < P → fl (I 30) 80 (-1) b = -1 := fun b hb => fl_in (by omega)
    have hB := BI_all (A := A) (B := B) (ok := ok1 I) (m := m) (f := fl (I 30) 80 (-1)) (g := I 31) hv hff f2 P
    have hE := BE_bfs (A := A) (B := B) (ok := ok1 I) (m := m) (f := fl (I 30) 80 (-1)) (g := I 31) (f' := fun _ => -1) (g' := fun _ => 0) hv hff (fun _ _ => rfl) f2 P
    have hE1 : ∀ b, b < P → (bfs A B (ok1 I) m P (fl (I 30) 80 (-1)) (I 31) (I 40 p.toNat)).1 b = (bfs A B (ok1 I) m P (fun _ => -1) (fun _ => 0) (I 40 p.toNat)).1 b := hE.1
    have hB : BI A B (ok1 I) m P P (bfs A B (ok1 I) m P (fl (I 30) 80 (-1)) (I 31) (I 40 p.toNat)) := hB
    have hS := BW_of hP hB
    have hst : ∀ b, b < P → -1 ≤ (bfs A B (ok1 I) m P (fl (I 30) 80 (-1)) (I 31) (I 40 p.toNat)).1 b ∧ (bfs A B (ok1 I) m P (fl (I 30) 80 (-1)) (I 31) (I 40 p.toNat)).1 b ≤ 80 := fun b hb => by
      rcases hS.2.2.1 b hb with q | ⟨i, q1, q2⟩
      · rw [q]; omega
      · have h0 := hS.2.1 i q1
        rw [q2, Int.toNat_natCast] at h0
        have := hS.1
        omega
    have eA : AIRO A B (I 26) (ok1 I) m P (I 39 p.toNat) (I 40 p.toNat) (I 41 p.toNat) = if (bfs A B (ok1 I) m P (fl (I 30) 80 (-1)) (I 31) (I 40 p.toNat)).1 (I 39 p.toNat).toNat = -1 then fun _ => 0 else (ZZ A B (bfs A B (ok1 I) m P (fun _ => -1) (fun _ => 0) (I 40 p.toNat)).1 (I 26) (ok1 I) m P 80 80 (fun _ => 0, ud (fun _ => 0) (I 39 p.toNat).toNat (I 41 p.toNat))).1 := by
      unfold AIRO
      rw [hE1 _ (by omega)]
    have hpre : ∀ R, Run PG (Call PG (d + 3)) 59 55 [(2, 38), (2, 25), (0, p), (0, (m : Int))] [] (BH (pc I 42 o1) (bfs A B (ok1 I) m P (fl (I 30) 80 (-1)) (I 31) (I 40 p.toNat)), RF sp rt tt z.1, z) (0, 0) = R → Call PG (d + 4) 59 [(2, 38), (2, 25), (0, p)] (I, RF sp rt tt z.1, z) = R := fun R hR => hstart _ ((T_59_2 ..).trans (ci_f (show ¬ (m : Int) < I 25 1 by omega) (ci_t hp (ci_f c0 (ci_t hp (bd_t h61 hR))))))
    clear h61 hE hff
    generalize hSS : bfs A B (ok1 I) m P (fl (I 30) 80 (-1)) (I 31) (I 40 p.toNat) = S at *
    have h30 : ∀ j, BH (pc I 42 o1) S 30 j = S.1 j := fun j => rfl
    by_cases c1 : S.1 (I 39 p.toNat).toNat = -1
    · rw [if_pos c1] at eA
      have h65 := S_65 (d := d + 1) (I := BH (pc I 42 o1) S) (sp := sp) (rt := rt) (tt := tt) (z := z) (A := A) (B := B) (P := P) (m := m) (p := p) hC h1
      rw [show BH (pc I 42 o1) S 33 = I 33 from rfl, show BH (pc I 42 o1) S 42 = o1 from rfl, show ok1 (BH (pc I 42 o1) S) = ok1 I from rfl] at h65
      refine ⟨BH (pc I 42 o1) S, hpre _ ((T_59_55 ..).trans (ci_t hp (ci_t (show 0 ≤ I 39 p.toNat ∧ I 39 p.toNat < 80 by omega) (ci_t c1 (bd_t h65 ((T_59_129 ..).trans ?_)))))), FRc_BH2, fun r hr e => ?_, fun r hr e => o1b r hr e⟩
      · rw [eA, LAV_cg (o' := fun _ => 0) (fun r hr e => o1a r hr e) (fun _ _ => rfl)]
      · rw [if_neg c0, eA]; exact o1a r hr e
    · rw [if_neg c1] at eA
      have e43 : ∀ b, b < P → ud (fl (I 43) 80 0) (I 39 p.toNat).toNat (I 41 p.toNat) b = ud (fun _ => 0) (I 39 p.toNat).toNat (I 41 p.toNat) b := fun b hb => by
        unfold ud
        rw [show fl (I 43) 80 0 b = 0 from fl_in (by omega)]
      have hZ := ZZ_cg (A := A) (B := B) (st := S.1) (st' := (bfs A B (ok1 I) m P (fun _ => -1) (fun _ => 0) (I 40 p.toNat)).1) (w := I 26) (w' := I 26) (ok := ok1 I) (ok' := ok1 I) (m := m) (P := P) (T := fun r => I 33 (A r).toNat = p) hv hE1 (fun _ _ => rfl) (fun _ _ => rfl) (k := 80) (d := 80) (s := (o1, ud (fl (I 43) 80 0) (I 39 p.toNat).toNat (I 41 p.toNat))) (s' := (fun _ => 0, ud (fun _ => 0) (I 39 p.toNat).toNat (I 41 p.toNat))) ⟨fun b hb => e43 b hb, fun r hr e => o1a r hr e⟩
      rw [← RW_all (w := I 26) (ok := ok1 I) hv hS] at hZ
      have hn := hS.1
      have hl := S_59l (d := d) (sp := sp) (rt := rt) (tt := tt) (z := z) (A := A) (B := B) (P := P) (m := m) (p := p) (X := BH (pc I 42 o1) S) (S := S) (o0 := I 42) (R := Run PG (Call PG (d + 3)) 59 102 [(2, 38), (2, 25), (0, p), (0, (((S.2.2 - 1).toNat : Nat) : Int))] [] (AC (BH (pc I 42 o1) S) o1 (ud (fl (I 43) 80 0) (I 39 p.toNat).toNat (I 41 p.toNat)), RF sp rt tt z.1, z) (0, 0)) hC hw hpp hS hst rfl rfl
      obtain ⟨s', hs'⟩ : ∃ s', s' = RW A B S.1 (I 26) (ok1 I) m S.2.1 (S.2.2 - 1).toNat (o1, ud (fl (I 43) 80 0) (I 39 p.toNat).toNat (I 41 p.toNat)) := ⟨_, rfl⟩
      rw [← hs'] at hZ
      have hci : CI P 1000000 (ud (fl (I 43) 80 0) (I 39 p.toNat).toNat (I 41 p.toNat)) (QQ S (S.2.2 - 1).toNat) := by
        have q0 : ∀ b, b < P → QQ S (S.2.2 - 1).toNat b = false := fun b hb => by
          rw [← Bool.not_eq_true]
          intro q
          obtain ⟨j, q3, q4, q5⟩ := QQ_iff.mp q
          omega
        constructor
        · intro b hb
          unfold ud
          split
          · omega
          · rw [show fl (I 43) 80 0 b = 0 from fl_in (by omega)]; exact Int.le_refl _
        · have es : sm (fun b => if QQ S (S.2.2 - 1).toNat b = true then 0 else ud (fl (I 43) 80 0) (I 39 p.toNat).toNat (I 41 p.toNat) b) P = sm (ud (fun _ => 0) (I 39 p.toNat).toNat (I 41 p.toNat)) P := sm_congr (fun b hb => by rw [if_neg (by rw [q0 b hb]; decide), e43 b hb])
          rw [es, sm_sgl (f := ud (fun _ => 0) (I 39 p.toNat).toNat (I 41 p.toNat)) (k := (I 39 p.toNat).toNat) (by omega) (fun i hi hne => ud_ne hne), ud_eq]
          omega
      have hpx : PX A (I 33) (I 42) P m p (o1, ud (fl (I 43) 80 0) (I 39 p.toNat).toNat (I 41 p.toNat)) := by
        constructor
        · intro b hb hne
          show ud _ _ _ b = 0
          rw [ud_ne (fun q => hne (by rw [q]; exact f4))]
          exact fl_in (by omega)
        · intro r hr hne; exact o1b r hr hne
      -- the state at the end
      have hfin : ∃ Rv, Rv = some (some (0, LAV A (I 33) s'.1 (ok1 I) m p), (AC (BH (pc I 42 o1) S) s'.1 s'.2, RF sp rt tt z.1, z)) := ⟨_, rfl⟩
      obtain ⟨Rv, hRv⟩ := hfin
      have hpx' : PX A (I 33) (I 42) P m p s' := by
        have hall : ∀ (k : Nat) (s : OC), (k : Int) < S.2.2 → PX A (I 33) (I 42) P m p s → PX A (I 33) (I 42) P m p (RW A B S.1 (I 26) (ok1 I) m S.2.1 k s) := by
          intro k
          induction k with
          | zero => intro s _ h; exact h
          | succ k ih =>
            intro s hk h
            have := hS.2.1 (k + 1) hk
            exact ih _ (by omega) (PX_pro hv hpp (by omega) h)
        rw [hs']
        exact hall _ _ (by omega) hpx
      have hl2 := S_59l (d := d) (sp := sp) (rt := rt) (tt := tt) (z := z) (A := A) (B := B) (P := P) (m := m) (p := p) (X := BH (pc I 42 o1) S) (S := S) (o0 := I 42) (R := Rv) hC hw hpp hS hst rfl rfl (S.2.2 - 1).toNat (o1, ud (fl (I 43) 80 0) (I 39 p.toNat).toNat (I 41 p.toNat)) (by omega) hci hpx (by
        intro s2 hs2 hx2
        have e2 : s2 = s' := hs2.trans hs'.symm
        subst e2
        have h65 := S_65 (d := d + 1) (I := AC (BH (pc I 42 o1) S) s2.1 s2.2) (sp := sp) (rt := rt) (tt := tt) (z := z) (A := A) (B := B) (P := P) (m := m) (p := p) hC h1
        rw [show AC (BH (pc I 42 o1) S) s2.1 s2.2 33 = I 33 from rfl, show AC (BH (pc I 42 o1) S) s2.1 s2.2 42 = s2.1 from rfl, show ok1 (AC (BH (pc I 42 o1) S) s2.1 s2.2) = ok1 I from rfl] at h65
        refine (T_59_102 ..).trans ?_
        refine ci_t (Int.le_refl _) ?_
        refine bd_t h65 ?_
        rw [hRv]
        exact T_59_129 ..)
      rw [show (((S.2.2 - 1).toNat : Nat) : Int) = S.2.2 - 1 by omega] at hl2
      refine ⟨AC (BH (pc I 42 o1) S) s'.1 s'.2, hpre _ ?_, FRc_AC, fun r hr e => ?_, fun r hr e => hpx'.2 r hr e⟩
      · refine (T_59_55 ..).trans ?_
        refine ci_t hp ?_
        refine ci_t (show 0 ≤ I 39 p.toNat ∧ I 39 p.toNat < 80 by omega) ?_
        refine ci_f c1 ?_
        refine bd_t (S_344 (c := 43) (n := 80) rfl (by omega)) ?_
        refine (T_59_78 ..).trans ?_
        refine ci_t hp ?_
        refine ci_t hp ?_
        refine ci_t (show 0 ≤ I 39 p.toNat ∧ I 39 p.toNat < 80 by omega) ?_
        rw [up2_pc, show pc (BH (pc I 42 o1) S) 43 (fl (BH (pc I 42 o1) S 43) 80 0) 25 8 = S.2.2 from rfl, w32_of (x := S.2.2 - 1) (by omega) (by omega)]
        have eY : pc (BH (pc I 42 o1) S) 43 (ud (fl (BH (pc I 42 o1) S 43) 80 0) (pc (BH (pc I 42 o1) S) 43 (fl (BH (pc I 42 o1) S 43) 80 0) 39 p.toNat).toNat (pc (BH (pc I 42 o1) S) 43 (fl (BH (pc I 42 o1) S 43) 80 0) 41 p.toNat)) = AC (BH (pc I 42 o1) S) o1 (ud (fl (I 43) 80 0) (I 39 p.toNat).toNat (I 41 p.toNat)) := by
          unfold AC
          rw [show pc (BH (pc I 42 o1) S) 42 o1 = BH (pc I 42 o1) S from pc_self (I := BH (pc I 42 o1) S) (c := 42)]
          rfl
        rw [eY]
        refine hl2.trans ?_
        rw [hRv, eA, LAV_cg (o' := (ZZ A B (bfs A B (ok1 I) m P (fun _ => -1) (fun _ => 0) (I 40 p.toNat)).1 (I 26) (ok1 I) m P 80 80 (fun _ => 0, ud (fun _ => 0) (I 39 p.toNat).toNat (I 41 p.toNat))).1) (fun r hr e => hZ.2 r hr e) (fun _ _ => rfl)]
      · rw [if_neg c0, eA]
        exact hZ.2 r hr e
end B2

