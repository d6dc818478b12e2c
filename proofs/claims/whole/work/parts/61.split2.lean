/-! the class's splitAt -/
section A2
variable {d : Nat} {I : Nat → Nat → Int} {sp rt : Nat} {tt : Nat → Nat} {z : Zs}
theorem S_64a {A B : Nat → Int} {P m : Nat} {o c : Nat → Int} {h r : Nat} (hC : CN A B P m (I 27) (I 28) (I 29)) (hh : h < P) (hr : r < m) (inc : ¬ oe A B r h = -1) (hst : -1 ≤ I 30 h ∧ I 30 h ≤ 80) : Call PG (d + 2) 64 [(2, 25), (0, (h : Int)), (0, AC I o c 28 (I 29 h + (cnt A B h r : Int)).toNat)] (AC I o c, RF sp rt tt z.1, z) = some (some (0, bz (onb A B (I 30) (ok1 I) h r = true)), (AC I o c, RF sp rt tt z.1, z)) := S_64c (X := AC I o c) hC hh hr inc hst
theorem S_64i {A B : Nat → Int} {P m : Nat} {h r : Nat} (hC : CN A B P m (I 27) (I 28) (I 29)) (hh : h < P) (hr : r < m) (inc : ¬ oe A B r h = -1) (hst : -1 ≤ I 30 h ∧ I 30 h ≤ 80) : Call PG (d + 2) 64 [(2, 25), (0, (h : Int)), (0, I 28 (I 29 h + (cnt A B h r : Int)).toNat)] (I, RF sp rt tt z.1, z) = some (some (0, bz (onb A B (I 30) (ok1 I) h r = true)), (I, RF sp rt tt z.1, z)) := S_64c (X := I) hC hh hr inc hst
/-- how the class reads road r of place h -/
theorem CN_h {A B : Nat → Int} {P m : Nat} {E L F : Nat → Int} (hC : CN A B P m E L F) {h : Nat} (hh : h < P) {r : Nat} (hr : r < m) (inc : ¬ oe A B r h = -1) :
    (F h + (cnt A B h r : Int) < F (h + 1) ∧ 0 ≤ F h + (cnt A B h r : Int) ∧ F h + (cnt A B h r : Int) < 300) ∧
    (0 ≤ ix32 (L (F h + (cnt A B h r : Int)).toNat) 1 ∧ ix32 (L (F h + (cnt A B h r : Int)).toNat) 1 < 300) ∧
    E (ix32 (L (F h + (cnt A B h r : Int)).toNat) 1).toNat = oe A B r h ∧
    w32 (Int.tdiv (L (F h + (cnt A B h r : Int)).toNat) 2) = r ∧
    w32 (F h + (cnt A B h r : Int) + 1) = F h + ((cnt A B h (r + 1) : Nat) : Int) ∧
    (0 ≤ oe A B r h ∧ oe A B r h < P) := by
  obtain ⟨x0, x1, x2, x3, x4, x5⟩ := CN_at hC (h := (h : Int)) (by omega) hr inc
  simp only [Int.toNat_natCast] at x1 x2 x3 x4
  have hb := oe_in hC.1.1 hr (Int.natCast_nonneg h) inc
  refine ⟨⟨x1.2.1, x1.1, x1.2.2⟩, x2, x3, x4, ?_, hb.1, hb.2.1⟩
  rw [x0, w32_of (by omega) (by omega)]
  omega
theorem hlim {h : Nat} (h1 : h < 80) : (0 ≤ w32 ((h : Int) + 1) ∧ w32 ((h : Int) + 1) < 81) ∧ (w32 ((h : Int) + 1)).toNat = h + 1 ∧ (0 ≤ (h : Int) ∧ (h : Int) < 80) ∧ (0 ≤ (h : Int) ∧ (h : Int) < 81) := by
  rw [w32_of (by omega) (by omega)]
  omega
/-- the third loop -/
theorem S_63c {A B : Nat → Int} {P m : Nat} {h : Nat} {R : Option Res} {W : Int} (hC : CN A B P m (I 27) (I 28) (I 29)) (hh : h < P) (hw : ∀ r, r < m → 1 ≤ I 26 r ∧ I 26 r ≤ 100) (hst : -1 ≤ I 30 h ∧ I 30 h ≤ 80) (hc : 0 ≤ I 43 h ∧ I 43 h ≤ 1000000) (hcb : ∀ b, b < P → I 30 b = I 30 h - 1 → 0 ≤ I 43 b ∧ I 43 b ≤ 1000000) (hx : 0 < I 43 h) (hW : 0 < SW (onb A B (I 30) (ok1 I) h) (I 26) m)
    (hR : R = some (none, (AC I (PRO A B (I 30) (I 26) (ok1 I) m h (I 42, I 43)).1 (PRO A B (I 30) (I 26) (ok1 I) m h (I 42, I 43)).2, RF sp rt tt z.1, z))) :
    ∀ d6, dl d6 → Run PG (Call PG (d + 2)) 63 179 [(2, 38), (2, 25), (0, (h : Int)), (0, W), (0, LF (onb A B (I 30) (ok1 I) h) (I 26) m (I 43 h) m), (0, I 29 h + ((cnt A B h 0 : Nat) : Int)), d6] [] (AC I (ov2 (I 42) (onb A B (I 30) (ok1 I) h) (vfl (onb A B (I 30) (ok1 I) h) (I 26) m (I 43 h)) m) (I 43), RF sp rt tt z.1, z) (0, 0) = R := by
  obtain ⟨hv, hP, hm⟩ := hC.1
  obtain ⟨l1, l2, l3, l4⟩ := hlim (h := h) (by omega)
  have hw0 : ∀ r, r < m → 0 ≤ I 26 r := fun r hr => by have := hw r hr; omega
  have hL := LF_b (on := onb A B (I 30) (ok1 I) h) (w := I 26) (m := m) hc.1 hw0 hW
  have hPR := PRO_ov (A := A) (B := B) (st := I 30) (w := I 26) (ok := ok1 I) (m := m) (h := h) (o := I 42) (c := I 43) hx
  rw [hPR] at hR
  obtain ⟨s1, s2⟩ := SHV_b (on := onb A B (I 30) (ok1 I) h) hc.1 hw0 hW
  have hsx : ∀ r, r < m → onb A B (I 30) (ok1 I) h r = true → SHV (onb A B (I 30) (ok1 I) h) (I 26) m (I 43 h) r ≤ I 43 h := fun r hr ho => by
    have := sm_one (f := fun r => if onb A B (I 30) (ok1 I) h r = true then SHV (onb A B (I 30) (ok1 I) h) (I 26) m (I 43 h) r else 0) (k := r) (n := m) (fun i hi => by
      have := s1 i hi
      split <;> omega) hr
    rw [if_pos ho] at this
    omega
  have hcm : ∀ b r, r ≤ m → I 43 b ≤ cm2 A B (I 43) (onb A B (I 30) (ok1 I) h) h (SHV (onb A B (I 30) (ok1 I) h) (I 26) m (I 43 h)) r b ∧ cm2 A B (I 43) (onb A B (I 30) (ok1 I) h) h (SHV (onb A B (I 30) (ok1 I) h) (I 26) m (I 43 h)) r b ≤ I 43 b + I 43 h := fun b r hr => cm2_b hc.1 hw0 hW hr
  have hvb : ∀ r, r < m → 0 ≤ vfl (onb A B (I 30) (ok1 I) h) (I 26) m (I 43 h) r ∧ vfl (onb A B (I 30) (ok1 I) h) (I 26) m (I 43 h) r ≤ 100000000 := fun r hr => vfl_b hc (hw r hr) hW
  have hLb := L2_in (on := onb A B (I 30) (ok1 I) h) hL
  have hLx := (LF_in (on := onb A B (I 30) (ok1 I) h) (w := I 26) (m := m) (k := m) hc.1 hw0 hW (Nat.le_refl m)).2
  have hsv : ∀ r, SHV (onb A B (I 30) (ok1 I) h) (I 26) m (I 43 h) r = vfl (onb A B (I 30) (ok1 I) h) (I 26) m (I 43 h) r + (if 0 < L2 (onb A B (I 30) (ok1 I) h) (LF (onb A B (I 30) (ok1 I) h) (I 26) m (I 43 h) m) r then 1 else 0) := fun r => rfl
  have hl2 : ∀ r, L2 (onb A B (I 30) (ok1 I) h) (LF (onb A B (I 30) (ok1 I) h) (I 26) m (I 43 h) m) (r + 1) = if onb A B (I 30) (ok1 I) h r = true ∧ 0 < L2 (onb A B (I 30) (ok1 I) h) (LF (onb A B (I 30) (ok1 I) h) (I 26) m (I 43 h) m) r then L2 (onb A B (I 30) (ok1 I) h) (LF (onb A B (I 30) (ok1 I) h) (I 26) m (I 43 h) m) r - 1 else L2 (onb A B (I 30) (ok1 I) h) (LF (onb A B (I 30) (ok1 I) h) (I 26) m (I 43 h) m) r := fun r => rfl
  have hL0 : L2 (onb A B (I 30) (ok1 I) h) (LF (onb A B (I 30) (ok1 I) h) (I 26) m (I 43 h) m) 0 = LF (onb A B (I 30) (ok1 I) h) (I 26) m (I 43 h) m := rfl
  have hon : ∀ r, onb A B (I 30) (ok1 I) h r = true → ¬ oe A B r h = -1 ∧ I 30 (oe A B r h).toNat = I 30 h - 1 := fun r ho => ⟨(of_decide_eq_true ho).1, (of_decide_eq_true ho).2.2⟩
  have h64 := fun (o c : Nat → Int) (r : Nat) (hr : r < m) (inc : ¬ oe A B r h = -1) => S_64a (d := d) (sp := sp) (rt := rt) (tt := tt) (z := z) (o := o) (c := c) hC hh hr inc hst
  generalize onb A B (I 30) (ok1 I) h = on at *
  generalize SHV on (I 26) m (I 43 h) = sh at *
  generalize vfl on (I 26) m (I 43 h) = vf at *
  generalize LF on (I 26) m (I 43 h) m = L at *
  generalize L2 on L = LL at *
  rw [← hL0]
  have e0 : AC I (ov2 (I 42) on vf m) (I 43) = AC I (ov2 (ov2 (I 42) on vf m) on sh 0) (cm2 A B (I 43) on h sh 0) := by rw [ov2_0, cm2_0]
  rw [e0]
  refine loop_c (fun r => ∀ d6, dl d6 → Run PG (Call PG (d + 2)) 63 179 [(2, 38), (2, 25), (0, (h : Int)), (0, W), (0, LL r), (0, I 29 h + ((cnt A B h r : Nat) : Int)), d6] [] (AC I (ov2 (ov2 (I 42) on vf m) on sh r) (cm2 A B (I 43) on h sh r), RF sp rt tt z.1, z) (0, 0) = R) m ?_ ?_
  · intro r hr ih d6 h6
    by_cases inc : oe A B r h = -1
    · have no : ¬ on r = true := fun w => (hon r w).1 inc
      rw [ov2_off no, cm2_off no, hl2, if_neg (fun q => no q.1), cnt_no hv hr inc] at ih
      exact ih d6 h6
    · obtain ⟨y1, y2, y3, y4, y5, y6⟩ := CN_h hC hh hr inc
      refine (T_63_179 (hx6 := h6) ..).trans ?_
      refine ci_t l1 ?_
      refine ci_t (by rw [l2]; exact y1.1) ?_
      refine ci_t y1.2 ?_
      refine ci_t y1.2 ?_
      refine bd_t (h64 _ _ r hr inc) ?_
      refine (T_63_215 ..).trans ?_
      rw [show ∀ o c j, AC I o c 28 j = I 28 j from fun _ _ _ => rfl, show ∀ o c j, AC I o c 27 j = I 27 j from fun _ _ _ => rfl, y3, y4, y5]
      by_cases ho : on r = true
      · refine ci_bf ho ?_
        have hb0 : oe A B r h = (((oe A B r h).toNat : Nat) : Int) := by omega
        have hbb := hcb (oe A B r h).toNat (by omega) (hon r ho).2
        have c1 := hcm (oe A B r h).toNat r (by omega)
        have c2 := hcm (oe A B r h).toNat (r + 1) (by omega)
        have s3 := hsx r hr ho
        have s4 := s1 r hr
        have eov : ov2 (ov2 (I 42) on vf m) on sh r r = vf r := by rw [ov2_at]; exact ov2_in hr ho
        have l5 := hLb r
        have v5 := hvb r hr
        have h6' : 0 ≤ (r : Int) ∧ (r : Int) < 150 := ⟨Int.natCast_nonneg _, by omega⟩
        have ecm : ∀ _ : Unit, w32 (cm2 A B (I 43) on h sh r (oe A B r h).toNat + sh r) = cm2 A B (I 43) on h sh r (oe A B r h).toNat + sh r := fun _ => w32_of (by omega) (by omega)
        by_cases hl : 0 < LL r
        · have es : sh r = vf r + 1 := by rw [hsv, if_pos hl]
          rw [hl2, if_pos ⟨ho, hl⟩] at ih
          refine ci_f (by omega) ?_
          refine ci_t h6' ?_
          refine ci_t h6' ?_
          refine ci_t y1.2 ?_
          refine ci_t y2 ?_
          refine ci_t (by omega) ?_
          refine ci_t h6' ?_
          refine ci_t (by omega) ?_
          rw [Int.toNat_natCast, show AC I (ov2 (ov2 (I 42) on vf m) on sh r) (cm2 A B (I 43) on h sh r) 42 r = vf r from eov, show AC I (ov2 (ov2 (I 42) on vf m) on sh r) (cm2 A B (I 43) on h sh r) 43 (oe A B r h).toNat = cm2 A B (I 43) on h sh r (oe A B r h).toNat from rfl, up2_eq, w32_of (x := vf r + 1) (by omega) (by omega), ← es, ecm (), AC_42, AC_43, ov2_on ho, cm2_on ho hb0, w32_of (x := LL r + -1) (by omega) (by omega)]
          exact ih _ (dl0 _)
        · have es : sh r = vf r := by rw [hsv, if_neg hl]; exact Int.add_zero _
          rw [hl2, if_neg (fun q => hl q.2), ov2_eq ho (by rw [es]; exact ov2_in hr ho)] at ih
          refine ci_t (by omega) ?_
          refine ci_t y1.2 ?_
          refine ci_t y2 ?_
          refine ci_t (by omega) ?_
          refine ci_t h6' ?_
          refine ci_t (by omega) ?_
          rw [Int.toNat_natCast, show AC I (ov2 (ov2 (I 42) on vf m) on sh r) (cm2 A B (I 43) on h sh r) 42 r = vf r from eov, show AC I (ov2 (ov2 (I 42) on vf m) on sh r) (cm2 A B (I 43) on h sh r) 43 (oe A B r h).toNat = cm2 A B (I 43) on h sh r (oe A B r h).toNat from rfl, ← es, ecm (), AC_43, cm2_on ho hb0]
          exact ih _ (dl0 _)
      · refine ci_bt ho ?_
        rw [ov2_off ho, cm2_off ho, hl2, if_neg (fun q => ho q.1)] at ih
        exact ih _ (dl0 _)
  · intro d6 h6
    have fh := hC.2.2.1 h hh
    refine (T_63_179 (hx6 := h6) ..).trans ?_
    refine ci_t l1 ?_
    refine ci_f (by rw [l2]; show ¬ I 29 h + ((cnt A B h m : Nat) : Int) < I 29 (h + 1); omega) ?_
    exact hR.symm
end A2

