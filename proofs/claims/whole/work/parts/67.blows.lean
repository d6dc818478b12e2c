/-! the reference's blows and least air -/
def Qd (st : Nat → Int) (d : Int) (a : Nat) : Nat → Bool := fun h => decide (d < st h ∨ st h = d ∧ h < a)
theorem CI_mono {P : Nat} {X : Int} {c : Nat → Int} {Q Q' : Nat → Bool} (h : ∀ b, b < P → Q b = true → Q' b = true) (H : CI P X c Q) : CI P X c Q' := by
  refine ⟨H.1, Int.le_trans (sm_le (fun b hb => ?_)) H.2⟩
  have := H.1 b hb
  by_cases q : Q b = true
  · rw [if_pos q, if_pos (h b hb q)]; exact Int.le_refl _
  · rw [if_neg q]; split <;> omega
section C1
variable {d : Nat} {I : Nat → Nat → Int} {sp rt : Nat} {tt : Nat → Nat} {z : Zs}
theorem AR_AR {X : Nat → Nat → Int} {o c o' c' : Nat → Int} : AR (AR X o c) o' c' = AR X o' c' := by
  unfold AR
  funext a j
  unfold pc
  by_cases h : a = 126
  · rw [if_pos h, if_pos h]
  · rw [if_neg h, if_neg h]
    by_cases h2 : a = 127
    · simp [h2]
    · simp [h, h2]
theorem FRr_AR {I J : Nat → Nat → Int} (h : FRr I J) {o c : Nat → Int} : FRr I (AR J o c) := FRr_pc (FRr_pc h (by omega)) (by omega)
theorem S_255a {P m : Nat} {p t : Int} {X : Nat → Nat → Int} {st : Nat → Int} (hv : NV (X 119) (X 120) m P) (hP : X 82 6 = P ∧ P ≤ 80) (hm : X 82 7 = m ∧ m ≤ 150) (hw : ∀ r, r < m → 1 ≤ X 121 r ∧ X 121 r ≤ 100) (hst : ∀ b, b < P → -1 ≤ st b ∧ st b ≤ 80) (e124 : X 124 = st) :
    ∀ (k : Nat) (s : OC), k ≤ 80 → CI P 1000000 s.2 (fun h => decide ((k : Int) < st h)) → ∀ d4, dl d4 → Run PG (Call PG (d + 3)) 255 98 [(2, 82), (0, p), (0, t), (0, (k : Int)), d4] [] (AR X s.1 s.2, RF sp rt tt z.1, z) (0, 0) = some (none, (AR X (RD (X 119) (X 120) st (X 121) (ok2 X t) m P k s).1 (RD (X 119) (X 120) st (X 121) (ok2 X t) m P k s).2, RF sp rt tt z.1, z)) := by
  intro k
  induction k with
  | zero => intro s _ _ d4 h4; exact (T_255_98 (hx4 := h4) ..).trans (ci_t (by omega) rfl)
  | succ k ih =>
    intro s hk hci d4 h4
    refine (T_255_98 (hx4 := h4) ..).trans ?_
    refine ci_f (by omega) ?_
    have h := loop_p (fun (a : Nat) (s : OC) => if st a = ((k + 1 : Nat) : Int) ∧ 0 < s.2 a then PRO (X 119) (X 120) st (X 121) (ok2 X t) m a s else s) (fun (a : Nat) (s' : OC) => CI P 1000000 s'.2 (Qd st ((k + 1 : Nat) : Int) a) → Run PG (Call PG (d + 3)) 255 105 [(2, 82), (0, p), (0, t), (0, ((k + 1 : Nat) : Int)), (0, (a : Int))] [] (AR X s'.1 s'.2, RF sp rt tt z.1, z) (0, 0) = some (none, (AR X (RD (X 119) (X 120) st (X 121) (ok2 X t) m P (k + 1) s).1 (RD (X 119) (X 120) st (X 121) (ok2 X t) m P (k + 1) s).2, RF sp rt tt z.1, z))) P s ?_ ?_
    · exact h (CI_cg (fun b hb => bool_ext (by
        unfold Qd
        rw [decide_eq_true_iff, decide_eq_true_iff]
        omega)) hci)
    · intro a s' ha _ ih2 hc
      have ha2 : 0 ≤ (a : Int) ∧ (a : Int) < 80 := by omega
      have e1 : ∀ _ : Unit, w32 ((a : Int) + 1) = ((a + 1 : Nat) : Int) := fun _ => ws_n (by omega)
      have ca := hc.1 a ha
      refine (T_255_105 ..).trans ?_
      refine ci_t (show (a : Int) < X 82 6 by omega) ?_
      refine ci_t ha2 ?_
      rw [Int.toNat_natCast, show AR X s'.1 s'.2 124 a = st a from congrFun e124 a]
      by_cases c1 : st a = ((k + 1 : Nat) : Int)
      · refine ci_t c1 ?_
        refine ci_t ha2 ?_
        have hq : Qd st ((k + 1 : Nat) : Int) a a = false := by
          rw [← Bool.not_eq_true]
          unfold Qd
          rw [decide_eq_true_iff]
          omega
        by_cases c2 : 0 < s'.2 a
        · refine ci_f (show ¬ s'.2 a ≤ 0 by omega) ?_
          rw [if_pos ⟨c1, c2⟩] at ih2
          have sa := hst a ha
          have h59 := S_259 (d := d) (I := AR X s'.1 s'.2) (sp := sp) (rt := rt) (tt := tt) (z := z) (P := P) (m := m) (t := t) (h := a) hv hP.2 hm.2 hm.1 ha hw (by
            show 1 ≤ X 124 a ∧ X 124 a ≤ 80
            rw [e124]; omega) (CI_le hc ha hq) (by
            show ∀ b, b < P → X 124 b = X 124 a - 1 → 0 ≤ s'.2 b ∧ s'.2 b ≤ 1000000
            rw [e124]
            intro b hb e
            refine CI_le hc hb ?_
            rw [← Bool.not_eq_true]
            unfold Qd
            rw [decide_eq_true_iff]
            omega) c2
          rw [AR_AR, show AR X s'.1 s'.2 119 = X 119 from rfl, show AR X s'.1 s'.2 120 = X 120 from rfl, show AR X s'.1 s'.2 124 = X 124 from rfl, show AR X s'.1 s'.2 121 = X 121 from rfl, show ok2 (AR X s'.1 s'.2) t = ok2 X t from rfl, show AR X s'.1 s'.2 127 = s'.1 from rfl, show AR X s'.1 s'.2 126 = s'.2 from rfl, e124] at h59
          refine bd_t h59 ?_
          refine (T_255_142 ..).trans ?_
          rw [e1 ()]
          refine ih2 (CI_cg (fun b hb => bool_ext ?_) (CI_pro (A := X 119) (B := X 120) (st := st) (w := X 121) (ok := ok2 X t) hv (fun r hr => (hw r hr).1) ha hq (fun q hq1 hq2 => ?_) hc))
          · unfold Qd
            rw [Bool.or_eq_true, decide_eq_true_iff, decide_eq_true_iff, decide_eq_true_iff]
            constructor
            · rintro (q | q)
              · omega
              · subst q; omega
            · intro q
              by_cases u : b = a
              · exact Or.inr u
              · exact Or.inl (by omega)
          · unfold Qd at hq2
            rw [decide_eq_true_iff] at hq2
            omega
        · refine ci_t (show s'.2 a ≤ 0 by omega) ?_
          rw [if_neg (fun q => c2 q.2)] at ih2
          refine (T_255_142 ..).trans ?_
          rw [e1 ()]
          refine ih2 (CI_mono (fun b hb q => ?_) hc)
          unfold Qd at q ⊢
          rw [decide_eq_true_iff] at q ⊢
          omega
      · refine ci_f c1 ?_
        rw [if_neg (fun q => c1 q.1)] at ih2
        refine (T_255_142 ..).trans ?_
        rw [e1 ()]
        refine ih2 (CI_mono (fun b hb q => ?_) hc)
        unfold Qd at q ⊢
        rw [decide_eq_true_iff] at q ⊢
        omega
    · intro hc
      refine (T_255_105 ..).trans ?_
      refine ci_f (show ¬ (P : Int) < X 82 6 by omega) ?_
      rw [show w32 (((k + 1 : Nat) : Int) + -1) = (k : Int) by rw [w32_of (by omega) (by omega)]; omega]
      refine ih (RA (X 119) (X 120) st (X 121) (ok2 X t) m P ((k + 1 : Nat) : Int) s) (by omega) (CI_cg (fun b hb => bool_ext ?_) hc) _ (dl0 _)
      unfold Qd
      rw [decide_eq_true_iff, decide_eq_true_iff]
      omega
def FNr (I : Nat → Nat → Int) (P : Nat) (p : Int) : Prop := I 116 p.toNat = -1 ∨ ((0 ≤ I 116 p.toNat ∧ I 116 p.toNat < P) ∧ (0 ≤ I 117 p.toNat ∧ I 117 p.toNat < P) ∧ (0 ≤ I 118 p.toNat ∧ I 118 p.toNat ≤ 1000000))
theorem okr_0 {t : Int} : okr I 0 t = ok2 I t := by
  funext r
  unfold okr ok2
  simp
theorem S_255 {P m : Nat} {p t : Int} (hv : NV (I 119) (I 120) m P) (hP : I 82 6 = P ∧ P ≤ 80) (hm : I 82 7 = m ∧ m ≤ 150) (hp : 0 ≤ p ∧ p < 12) (hw : ∀ r, r < m → 1 ≤ I 121 r ∧ I 121 r ≤ 100) (hf : FNr I P p) :
    ∃ J, Call PG (d + 4) 255 [(2, 82), (0, p), (0, t)] (I, RF sp rt tt z.1, z) = some (none, (J, RF sp rt tt z.1, z)) ∧ FRr I J ∧ ∀ r, r < m → J 127 r = if I 116 p.toNat = -1 then 0 else AIRO (I 119) (I 120) (I 121) (ok2 I t) m P (I 116 p.toNat) (I 117 p.toNat) (I 118 p.toNat) r := by
  have hstart : ∀ R, Run PG (Call PG (d + 3)) 255 2 [(2, 82), (0, p), (0, t), (0, (m : Int)), (9, 0)] [] (pc I 127 (fl (I 127) m 0), RF sp rt tt z.1, z) (0, 0) = R → Call PG (d + 4) 255 [(2, 82), (0, p), (0, t)] (I, RF sp rt tt z.1, z) = R := by
    intro R hR
    refine (K_255 ..).trans ?_
    refine (T_255_0 ..).trans ?_
    have h := loop_c (fun r => Run PG (Call PG (d + 3)) 255 2 [(2, 82), (0, p), (0, t), (0, (r : Int)), (9, 0)] [] (pc I 127 (fl (I 127) r 0), RF sp rt tt z.1, z) (0, 0) = R) m ?_ hR
    · rw [fl_0, pc_self] at h
      exact h
    · intro r hr ih
      refine (T_255_2 ..).trans ?_
      refine ci_t (show (r : Int) < I 82 7 by omega) ?_
      refine ci_t ⟨Int.natCast_nonneg _, by omega⟩ ?_
      rw [ws_n (by omega), up2_pc, Int.toNat_natCast, fl_s]
      exact ih
  by_cases c0 : I 116 p.toNat = -1
  · refine ⟨pc I 127 (fl (I 127) m 0), hstart _ ((T_255_2 ..).trans (ci_f (show ¬ (m : Int) < I 82 7 by omega) (ci_t hp (ci_t c0 rfl)))), FRr_pc FRr_r (by omega), fun r hr => ?_⟩
    rw [if_pos c0]
    exact fl_in hr
  · rcases hf with hf | ⟨f1, f2, f3⟩
    · exact absurd hf c0
    have h56 := S_256 (d := d + 1) (I := pc I 127 (fl (I 127) m 0)) (sp := sp) (rt := rt) (tt := tt) (z := z) (P := P) (m := m) (a := I 117 p.toNat) (all := 0) (t := t) hv hP hm f2
    rw [okr_0, show ok2 (pc I 127 (fl (I 127) m 0)) t = ok2 I t from rfl, show pc I 127 (fl (I 127) m 0) 119 = I 119 from rfl, show pc I 127 (fl (I 127) m 0) 120 = I 120 from rfl, show pc I 127 (fl (I 127) m 0) 124 = I 124 from rfl, show pc I 127 (fl (I 127) m 0) 125 = I 125 from rfl] at h56
    have hff : ∀ b, b < P → fl (I 124) P (-1) b = -1 := fun b hb => fl_in hb
    have hB : BI (I 119) (I 120) (ok2 I t) m P P (bfs (I 119) (I 120) (ok2 I t) m P (fl (I 124) P (-1)) (I 125) (I 117 p.toNat)) := BI_all hv hff f2 P
    have hE := BE_bfs (A := I 119) (B := I 120) (ok := ok2 I t) (m := m) (f := fl (I 124) P (-1)) (g := I 125) (f' := fun _ => -1) (g' := fun _ => 0) hv hff (fun _ _ => rfl) f2 P
    have hE1 : ∀ b, b < P → (bfs (I 119) (I 120) (ok2 I t) m P (fl (I 124) P (-1)) (I 125) (I 117 p.toNat)).1 b = (bfs (I 119) (I 120) (ok2 I t) m P (fun _ => -1) (fun _ => 0) (I 117 p.toNat)).1 b := hE.1
    have hS := BW_of hP.2 hB
    have eA : AIRO (I 119) (I 120) (I 121) (ok2 I t) m P (I 116 p.toNat) (I 117 p.toNat) (I 118 p.toNat) = if (bfs (I 119) (I 120) (ok2 I t) m P (fl (I 124) P (-1)) (I 125) (I 117 p.toNat)).1 (I 116 p.toNat).toNat = -1 then fun _ => 0 else (ZZ (I 119) (I 120) (bfs (I 119) (I 120) (ok2 I t) m P (fun _ => -1) (fun _ => 0) (I 117 p.toNat)).1 (I 121) (ok2 I t) m P 80 80 (fun _ => 0, ud (fun _ => 0) (I 116 p.toNat).toNat (I 118 p.toNat))).1 := by
      unfold AIRO
      rw [hE1 _ (by omega)]
    have hpre : ∀ R, Run PG (Call PG (d + 3)) 255 46 [(2, 82), (0, p), (0, t), (0, (m : Int)), (9, 0)] [] (RH (pc I 127 (fl (I 127) m 0)) (bfs (I 119) (I 120) (ok2 I t) m P (fl (I 124) P (-1)) (I 125) (I 117 p.toNat)), RF sp rt tt z.1, z) (0, 0) = R → Call PG (d + 4) 255 [(2, 82), (0, p), (0, t)] (I, RF sp rt tt z.1, z) = R := fun R hR => hstart _ ((T_255_2 ..).trans (ci_f (show ¬ (m : Int) < I 82 7 by omega) (ci_t hp (ci_f c0 (ci_t hp (bd_t h56 hR))))))
    clear h56 hE hff
    generalize hSS : bfs (I 119) (I 120) (ok2 I t) m P (fl (I 124) P (-1)) (I 125) (I 117 p.toNat) = S at *
    obtain ⟨X, hX⟩ : ∃ X, X = RH (pc I 127 (fl (I 127) m 0)) S := ⟨_, rfl⟩
    have hst : ∀ b, b < P → -1 ≤ S.1 b ∧ S.1 b ≤ 80 := fun b hb => by
      rcases hS.2.2.1 b hb with q | ⟨i, q1, q2⟩
      · rw [q]; omega
      · have h0 := hS.2.1 i q1
        rw [q2, Int.toNat_natCast] at h0
        have := hS.1
        omega
    have x127 : X 127 = fl (I 127) m 0 := by rw [hX]; rfl
    have x126 : X 126 = I 126 := by rw [hX]; rfl
    have xA : X 119 = I 119 := by rw [hX]; rfl
    have xB : X 120 = I 120 := by rw [hX]; rfl
    have xw : X 121 = I 121 := by rw [hX]; rfl
    have xs : X 124 = S.1 := by rw [hX]; rfl
    have xo : ok2 X t = ok2 I t := by rw [hX]; rfl
    have x6 : X 82 6 = I 82 6 := by rw [hX]; rfl
    have x7 : X 82 7 = I 82 7 := by rw [hX]; rfl
    have x116 : X 116 = I 116 := by rw [hX]; rfl
    have x118 : X 118 = I 118 := by rw [hX]; rfl
    have hXF : FRr I X := by rw [hX]; exact FRr_RH (FRr_pc FRr_r (by omega))
    -- what comes: nothing, but at the fan
    have hpre2 : ∀ R, Run PG (Call PG (d + 3)) 255 98 [(2, 82), (0, p), (0, t), (0, S.1 (I 116 p.toNat).toNat), (9, 0)] [] (AR X (X 127) (ud (fl (I 126) P 0) (I 116 p.toNat).toNat (I 118 p.toNat)), RF sp rt tt z.1, z) (0, 0) = R → Call PG (d + 4) 255 [(2, 82), (0, p), (0, t)] (I, RF sp rt tt z.1, z) = R := by
      intro R hR
      refine hpre _ ?_
      rw [← hX]
      refine (T_255_46 ..).trans ?_
      have h := loop_c (fun r => Run PG (Call PG (d + 3)) 255 48 [(2, 82), (0, p), (0, t), (0, (r : Int)), (9, 0)] [] (pc X 126 (fl (I 126) r 0), RF sp rt tt z.1, z) (0, 0) = R) P ?_ ?_
      · rw [fl_0, ← x126, pc_self] at h
        exact h
      · intro r hr ih
        refine (T_255_48 ..).trans ?_
        refine ci_t (show (r : Int) < X 82 6 by rw [x6]; omega) ?_
        refine ci_t (by omega) ?_
        rw [ws_n (by omega), up2_pc, Int.toNat_natCast, fl_s]
        exact ih
      · refine (T_255_48 ..).trans ?_
        have y116 : ∀ f j, pc X 126 f 116 j = I 116 j := fun f j => by rw [pc_ne (by decide), x116]
        have y118 : ∀ f j, pc X 126 f 118 j = I 118 j := fun f j => by rw [pc_ne (by decide), x118]
        have y124 : ∀ f j, pc X 126 f 124 j = S.1 j := fun f j => by rw [pc_ne (by decide), xs]
        refine ci_f (show ¬ (P : Int) < X 82 6 by rw [x6]; omega) ?_
        refine ci_t hp ?_
        refine ci_t hp ?_
        rw [y116, y118, y124]
        refine ci_t (by omega) ?_
        refine ci_t hp ?_
        refine ci_t (by omega) ?_
        rw [up2_pc]
        have eA : AR X (X 127) (ud (fl (I 126) P 0) (I 116 p.toNat).toNat (I 118 p.toNat)) = pc X 126 (ud (fl (I 126) P 0) (I 116 p.toNat).toNat (I 118 p.toNat)) := by
          unfold AR
          rw [pc_self]
        rw [← eA]
        exact hR
    have h255 := S_255a (d := d) (sp := sp) (rt := rt) (tt := tt) (z := z) (P := P) (m := m) (p := p) (t := t) (X := X) (st := S.1) (by rw [xA, xB]; exact hv) (by rw [x6]; exact hP) (by rw [x7]; exact hm) (by rw [xw]; exact hw) hst xs
    by_cases c1 : S.1 (I 116 p.toNat).toNat = -1
    · refine ⟨AR X (X 127) (ud (fl (I 126) P 0) (I 116 p.toNat).toNat (I 118 p.toNat)), hpre2 _ ((T_255_98 (hx4 := dl9) ..).trans (ci_t (by omega) rfl)), FRr_AR hXF, fun r hr => ?_⟩
      rw [if_neg c0, eA, if_pos c1]
      show X 127 r = 0
      rw [x127]
      exact fl_in hr
    · have hk := hst (I 116 p.toNat).toNat (by omega)
      have h98 := h255 (S.1 (I 116 p.toNat).toNat).toNat (X 127, ud (fl (I 126) P 0) (I 116 p.toNat).toNat (I 118 p.toNat)) (by omega) (by
        have e26 : ∀ b, b < P → ud (fl (I 126) P 0) (I 116 p.toNat).toNat (I 118 p.toNat) b = ud (fun _ => 0) (I 116 p.toNat).toNat (I 118 p.toNat) b := fun b hb => by
          unfold ud
          rw [show fl (I 126) P 0 b = 0 from fl_in hb]
        constructor
        · intro b hb
          show 0 ≤ ud (fl (I 126) P 0) (I 116 p.toNat).toNat (I 118 p.toNat) b
          rw [e26 b hb]
          unfold ud
          split
          · omega
          · exact Int.le_refl _
        · have es : sm (ud (fl (I 126) P 0) (I 116 p.toNat).toNat (I 118 p.toNat)) P = sm (ud (fun _ => 0) (I 116 p.toNat).toNat (I 118 p.toNat)) P := sm_congr (fun b hb => e26 b hb)
          refine Int.le_trans (sm_le (g := ud (fl (I 126) P 0) (I 116 p.toNat).toNat (I 118 p.toNat)) (fun b hb => ?_)) ?_
          · show (if _ then 0 else ud (fl (I 126) P 0) (I 116 p.toNat).toNat (I 118 p.toNat) b) ≤ _
            have : 0 ≤ ud (fl (I 126) P 0) (I 116 p.toNat).toNat (I 118 p.toNat) b := by
              rw [e26 b hb]
              unfold ud
              split
              · omega
              · exact Int.le_refl _
            split <;> omega
          · rw [es, sm_sgl (f := ud (fun _ => 0) (I 116 p.toNat).toNat (I 118 p.toNat)) (k := (I 116 p.toNat).toNat) (by omega) (fun i hi hne => ud_ne hne), ud_eq]
            omega) (9, 0) dl9
      rw [show (((S.1 (I 116 p.toNat).toNat).toNat : Nat) : Int) = S.1 (I 116 p.toNat).toNat by omega, xA, xB, xw, xo] at h98
      refine ⟨_, hpre2 _ h98, FRr_AR hXF, fun r hr => ?_⟩
      rw [if_neg c0, eA, if_neg c1]
      show (RD (I 119) (I 120) S.1 (I 121) (ok2 I t) m P (S.1 (I 116 p.toNat).toNat).toNat (X 127, ud (fl (I 126) P 0) (I 116 p.toNat).toNat (I 118 p.toNat))).1 r = _
      rw [RD_all hv (by omega) (fun h hh e => by
        show ¬ 0 < ud (fl (I 126) P 0) (I 116 p.toNat).toNat (I 118 p.toNat) h
        rw [ud_ne (fun q => by subst q; omega), show fl (I 126) P 0 h = 0 from fl_in hh]
        omega)]
      exact (ZZ_cg (T := fun _ => True) hv hE1 (fun _ _ => rfl) (fun _ _ => rfl) ⟨fun b hb => by
        show ud (fl (I 126) P 0) (I 116 p.toNat).toNat (I 118 p.toNat) b = ud (fun _ => 0) (I 116 p.toNat).toNat (I 118 p.toNat) b
        unfold ud
        rw [show fl (I 126) P 0 b = 0 from fl_in hb], fun r hr _ => by
        show X 127 r = 0
        rw [x127]; exact fl_in hr⟩).2 r hr trivial
end C1

