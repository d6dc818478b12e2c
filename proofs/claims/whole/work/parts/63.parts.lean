/-! the reference's parts -/
def ok2 (I : Nat → Nat → Int) (t : Int) : Nat → Bool := fun r => decide ((r : Int) = t ∧ ¬ I 123 r = 1 ∨ ¬ (r : Int) = t ∧ ¬ I 123 r = 0)
def AR (I : Nat → Nat → Int) (o c : Nat → Int) : Nat → Nat → Int := pc (pc I 127 o) 126 c
section P1
variable {d : Nat} {I : Nat → Nat → Int} {sp rt : Nat} {tt : Nat → Nat} {z : Zs}
theorem AR_127 {o c : Nat → Int} {r : Nat} {v : Int} : up2 (AR I o c) 127 r v = AR I (ud o r v) c := by unfold AR; rw [up2_pcn (by decide), up2_pc]
theorem AR_126 {o c : Nat → Int} {r : Nat} {v : Int} : up2 (AR I o c) 126 r v = AR I o (ud c r v) := up2_pc
theorem AR_self : AR I (I 127) (I 126) = I := by
  unfold AR
  rw [pc_self]
  exact pc_self
theorem S_260 {P m : Nat} {t : Int} {h r : Nat} (hv : NV (I 119) (I 120) m P) (hP : P ≤ 80) (hm : m ≤ 150) (hh : h < P) (hr : r < m) (hst : 1 ≤ I 124 h ∧ I 124 h ≤ 80) : Call PG (d + 2) 260 [(2, 82), (0, (r : Int)), (0, (h : Int)), (0, t)] (I, RF sp rt tt z.1, z) = some (some (0, bz (onb (I 119) (I 120) (I 124) (ok2 I t) h r = true)), (I, RF sp rt tt z.1, z)) := by
  have hr150 : 0 ≤ (r : Int) ∧ (r : Int) < 150 := ⟨Int.natCast_nonneg _, by omega⟩
  refine (K_260 ..).trans ?_
  refine (T_260_0 ..).trans ?_
  refine bd_t (S_257 hr150) ?_
  refine (T_260_6 ..).trans ?_
  rw [Int.toNat_natCast]
  by_cases c1 : oe (I 119) (I 120) r h = -1
  · refine ci_t c1 ?_
    exact rb0 (fun w => (of_decide_eq_true w).1 c1)
  refine ci_f c1 ?_
  refine bd_t (S_258 hr150) ?_
  refine (T_260_20 ..).trans ?_
  rw [Int.toNat_natCast]
  have hb := oe_in hv hr (Int.natCast_nonneg h) c1
  by_cases c2 : (r : Int) = t ∧ ¬ I 123 r = 1 ∨ ¬ (r : Int) = t ∧ ¬ I 123 r = 0
  · refine ci_bf c2 ?_
    refine ci_t (by omega) ?_
    by_cases c3 : I 124 (oe (I 119) (I 120) r h).toNat = -1
    · refine ci_t c3 ?_
      exact rb0 (fun w => by have := (of_decide_eq_true w).2.2; omega)
    refine ci_f c3 ?_
    refine ci_t (by omega) ?_
    refine ci_t (by omega) ?_
    rw [Int.toNat_natCast, w32_of (x := I 124 h - 1) (by omega) (by omega)]
    by_cases c4 : I 124 (oe (I 119) (I 120) r h).toNat = I 124 h - 1
    · exact ci_t c4 (rb1 (decide_eq_true ⟨c1, decide_eq_true c2, c4⟩))
    · exact ci_f c4 (rb0 (fun w => c4 (of_decide_eq_true w).2.2))
  · refine ci_bt c2 ?_
    exact rb0 (fun w => c2 (of_decide_eq_true (of_decide_eq_true w).2.1))
theorem S_260a {P m : Nat} {t : Int} {o c : Nat → Int} {h r : Nat} (hv : NV (I 119) (I 120) m P) (hP : P ≤ 80) (hm : m ≤ 150) (hh : h < P) (hr : r < m) (hst : 1 ≤ I 124 h ∧ I 124 h ≤ 80) : Call PG (d + 2) 260 [(2, 82), (0, (r : Int)), (0, (h : Int)), (0, t)] (AR I o c, RF sp rt tt z.1, z) = some (some (0, bz (onb (I 119) (I 120) (I 124) (ok2 I t) h r = true)), (AR I o c, RF sp rt tt z.1, z)) := S_260 (I := AR I o c) hv hP hm hh hr hst
theorem S_259c {P m : Nat} {t W : Int} {h : Nat} {R : Option Res} (hv : NV (I 119) (I 120) m P) (hP : P ≤ 80) (hm : m ≤ 150) (h7 : I 82 7 = m) (hh : h < P) (hw : ∀ r, r < m → 1 ≤ I 121 r ∧ I 121 r ≤ 100) (hst : 1 ≤ I 124 h ∧ I 124 h ≤ 80) (hc : 0 ≤ I 126 h ∧ I 126 h ≤ 1000000) (hcb : ∀ b, b < P → I 124 b = I 124 h - 1 → 0 ≤ I 126 b ∧ I 126 b ≤ 1000000) (hx : 0 < I 126 h) (hW : 0 < SW (onb (I 119) (I 120) (I 124) (ok2 I t) h) (I 121) m)
    (hR : R = some (none, (AR I (PRO (I 119) (I 120) (I 124) (I 121) (ok2 I t) m h (I 127, I 126)).1 (PRO (I 119) (I 120) (I 124) (I 121) (ok2 I t) m h (I 127, I 126)).2, RF sp rt tt z.1, z))) :
    Run PG (Call PG (d + 2)) 259 127 [(2, 82), (0, (h : Int)), (0, t), (0, W), (0, LF (onb (I 119) (I 120) (I 124) (ok2 I t) h) (I 121) m (I 126 h) m), (0, ((0 : Nat) : Int))] [] (AR I (ov2 (I 127) (onb (I 119) (I 120) (I 124) (ok2 I t) h) (vfl (onb (I 119) (I 120) (I 124) (ok2 I t) h) (I 121) m (I 126 h)) m) (I 126), RF sp rt tt z.1, z) (0, 0) = R := by
  have hw0 : ∀ r, r < m → 0 ≤ I 121 r := fun r hr => by have := hw r hr; omega
  have hL := LF_b (on := onb (I 119) (I 120) (I 124) (ok2 I t) h) (w := I 121) (m := m) hc.1 hw0 hW
  have hPR := PRO_ov (A := I 119) (B := I 120) (st := I 124) (w := I 121) (ok := ok2 I t) (m := m) (h := h) (o := I 127) (c := I 126) hx
  rw [hPR] at hR
  obtain ⟨s1, s2⟩ := SHV_b (on := onb (I 119) (I 120) (I 124) (ok2 I t) h) hc.1 hw0 hW
  have hsx : ∀ r, r < m → onb (I 119) (I 120) (I 124) (ok2 I t) h r = true → SHV (onb (I 119) (I 120) (I 124) (ok2 I t) h) (I 121) m (I 126 h) r ≤ I 126 h := fun r hr ho => by
    have := sm_one (f := fun r => if onb (I 119) (I 120) (I 124) (ok2 I t) h r = true then SHV (onb (I 119) (I 120) (I 124) (ok2 I t) h) (I 121) m (I 126 h) r else 0) (k := r) (n := m) (fun i hi => by
      have := s1 i hi
      split <;> omega) hr
    rw [if_pos ho] at this
    omega
  have hcm : ∀ b r, r ≤ m → I 126 b ≤ cm2 (I 119) (I 120) (I 126) (onb (I 119) (I 120) (I 124) (ok2 I t) h) h (SHV (onb (I 119) (I 120) (I 124) (ok2 I t) h) (I 121) m (I 126 h)) r b ∧ cm2 (I 119) (I 120) (I 126) (onb (I 119) (I 120) (I 124) (ok2 I t) h) h (SHV (onb (I 119) (I 120) (I 124) (ok2 I t) h) (I 121) m (I 126 h)) r b ≤ I 126 b + I 126 h := fun b r hr => cm2_b hc.1 hw0 hW hr
  have hvb : ∀ r, r < m → 0 ≤ vfl (onb (I 119) (I 120) (I 124) (ok2 I t) h) (I 121) m (I 126 h) r ∧ vfl (onb (I 119) (I 120) (I 124) (ok2 I t) h) (I 121) m (I 126 h) r ≤ 100000000 := fun r hr => vfl_b hc (hw r hr) hW
  have hLb := L2_in (on := onb (I 119) (I 120) (I 124) (ok2 I t) h) hL
  have hLx := (LF_in (on := onb (I 119) (I 120) (I 124) (ok2 I t) h) (w := I 121) (m := m) (k := m) hc.1 hw0 hW (Nat.le_refl m)).2
  have hsv : ∀ r, SHV (onb (I 119) (I 120) (I 124) (ok2 I t) h) (I 121) m (I 126 h) r = vfl (onb (I 119) (I 120) (I 124) (ok2 I t) h) (I 121) m (I 126 h) r + (if 0 < L2 (onb (I 119) (I 120) (I 124) (ok2 I t) h) (LF (onb (I 119) (I 120) (I 124) (ok2 I t) h) (I 121) m (I 126 h) m) r then 1 else 0) := fun r => rfl
  have hl2 : ∀ r, L2 (onb (I 119) (I 120) (I 124) (ok2 I t) h) (LF (onb (I 119) (I 120) (I 124) (ok2 I t) h) (I 121) m (I 126 h) m) (r + 1) = if onb (I 119) (I 120) (I 124) (ok2 I t) h r = true ∧ 0 < L2 (onb (I 119) (I 120) (I 124) (ok2 I t) h) (LF (onb (I 119) (I 120) (I 124) (ok2 I t) h) (I 121) m (I 126 h) m) r then L2 (onb (I 119) (I 120) (I 124) (ok2 I t) h) (LF (onb (I 119) (I 120) (I 124) (ok2 I t) h) (I 121) m (I 126 h) m) r - 1 else L2 (onb (I 119) (I 120) (I 124) (ok2 I t) h) (LF (onb (I 119) (I 120) (I 124) (ok2 I t) h) (I 121) m (I 126 h) m) r := fun r => rfl
  have hL0 : L2 (onb (I 119) (I 120) (I 124) (ok2 I t) h) (LF (onb (I 119) (I 120) (I 124) (ok2 I t) h) (I 121) m (I 126 h) m) 0 = LF (onb (I 119) (I 120) (I 124) (ok2 I t) h) (I 121) m (I 126 h) m := rfl
  have hon : ∀ r, onb (I 119) (I 120) (I 124) (ok2 I t) h r = true → ¬ oe (I 119) (I 120) r h = -1 ∧ I 124 (oe (I 119) (I 120) r h).toNat = I 124 h - 1 := fun r ho => ⟨(of_decide_eq_true ho).1, (of_decide_eq_true ho).2.2⟩
  have h60 := fun (o c : Nat → Int) (r : Nat) (hr : r < m) => S_260a (d := d) (sp := sp) (rt := rt) (tt := tt) (z := z) (o := o) (c := c) (t := t) hv hP hm hh hr hst
  generalize onb (I 119) (I 120) (I 124) (ok2 I t) h = on at *
  generalize SHV on (I 121) m (I 126 h) = sh at *
  generalize vfl on (I 121) m (I 126 h) = vf at *
  generalize LF on (I 121) m (I 126 h) m = L at *
  generalize L2 on L = LL at *
  rw [← hL0]
  have e0 : AR I (ov2 (I 127) on vf m) (I 126) = AR I (ov2 (ov2 (I 127) on vf m) on sh 0) (cm2 (I 119) (I 120) (I 126) on h sh 0) := by rw [ov2_0, cm2_0]
  rw [e0]
  refine loop_c (fun r => Run PG (Call PG (d + 2)) 259 127 [(2, 82), (0, (h : Int)), (0, t), (0, W), (0, LL r), (0, (r : Int))] [] (AR I (ov2 (ov2 (I 127) on vf m) on sh r) (cm2 (I 119) (I 120) (I 126) on h sh r), RF sp rt tt z.1, z) (0, 0) = R) m ?_ ?_
  · intro r hr ih
    have h6' : 0 ≤ (r : Int) ∧ (r : Int) < 150 := ⟨Int.natCast_nonneg _, by omega⟩
    refine (T_259_127 ..).trans ?_
    refine ci_t (show (r : Int) < I 82 7 by omega) ?_
    refine bd_t (h60 _ _ r hr) ?_
    refine (T_259_144 ..).trans ?_
    have e1 : ∀ _ : Unit, w32 ((r : Int) + 1) = ((r + 1 : Nat) : Int) := fun _ => ws_n (by omega)
    by_cases ho : on r = true
    · refine ci_bf ho ?_
      have hb := oe_in hv hr (Int.natCast_nonneg h) (hon r ho).1
      have hb0 : oe (I 119) (I 120) r h = (((oe (I 119) (I 120) r h).toNat : Nat) : Int) := by omega
      have hbb := hcb (oe (I 119) (I 120) r h).toNat (by omega) (hon r ho).2
      have c1 := hcm (oe (I 119) (I 120) r h).toNat r (by omega)
      have c2 := hcm (oe (I 119) (I 120) r h).toNat (r + 1) (by omega)
      have s3 := hsx r hr ho
      have s4 := s1 r hr
      have eov : ov2 (ov2 (I 127) on vf m) on sh r r = vf r := by rw [ov2_at]; exact ov2_in hr ho
      have l5 := hLb r
      have v5 := hvb r hr
      have ecm : ∀ _ : Unit, w32 (cm2 (I 119) (I 120) (I 126) on h sh r (oe (I 119) (I 120) r h).toNat + sh r) = cm2 (I 119) (I 120) (I 126) on h sh r (oe (I 119) (I 120) r h).toNat + sh r := fun _ => w32_of (by omega) (by omega)
      have h57 := fun (o c : Nat → Int) => S_257 (d := d + 1) (I := AR I o c) (sp := sp) (rt := rt) (tt := tt) (z := z) (r := (r : Int)) (a := (h : Int)) h6'
      by_cases hl : 0 < LL r
      · have es : sh r = vf r + 1 := by rw [hsv, if_pos hl]
        have wv : ∀ _ : Unit, w32 (vf r + 1) = sh r := fun _ => by rw [es]; exact w32_of (by omega) (by omega)
        have wl : ∀ _ : Unit, w32 (LL r + -1) = LL r - 1 := fun _ => w32_of (by omega) (by omega)
        rw [hl2, if_pos ⟨ho, hl⟩] at ih
        refine ci_f (by omega) ?_
        refine ci_t h6' ?_
        refine ci_t h6' ?_
        rw [Int.toNat_natCast, show AR I (ov2 (ov2 (I 127) on vf m) on sh r) (cm2 (I 119) (I 120) (I 126) on h sh r) 127 r = vf r from eov, wv (), AR_127, ov2_on ho]
        refine bd_t (h57 _ _) ?_
        refine (T_259_180 ..).trans ?_
        rw [show ∀ o c, oe (AR I o c 119) (AR I o c 120) (r : Int).toNat h = oe (I 119) (I 120) r h from fun _ _ => rfl]
        refine ci_t (by omega) ?_
        refine ci_t h6' ?_
        refine ci_t (by omega) ?_
        rw [show AR I (ov2 (ov2 (I 127) on vf m) on sh (r + 1)) (cm2 (I 119) (I 120) (I 126) on h sh r) 127 (r : Int).toNat = sh r from if_pos ⟨Nat.lt_succ_self r, ho⟩, show ∀ o, AR I o (cm2 (I 119) (I 120) (I 126) on h sh r) 126 (oe (I 119) (I 120) r h).toNat = cm2 (I 119) (I 120) (I 126) on h sh r (oe (I 119) (I 120) r h).toNat from fun _ => rfl, ecm (), AR_126, cm2_on ho hb0, wl (), e1 ()]
        exact ih
      · have es : sh r = vf r := by rw [hsv, if_neg hl]; exact Int.add_zero _
        rw [hl2, if_neg (fun q => hl q.2), ov2_eq ho (by rw [es]; exact ov2_in hr ho)] at ih
        refine ci_t (by omega) ?_
        refine bd_t (h57 _ _) ?_
        refine (T_259_180 ..).trans ?_
        rw [show ∀ o c, oe (AR I o c 119) (AR I o c 120) (r : Int).toNat h = oe (I 119) (I 120) r h from fun _ _ => rfl]
        refine ci_t (by omega) ?_
        refine ci_t h6' ?_
        refine ci_t (by omega) ?_
        rw [show AR I (ov2 (ov2 (I 127) on vf m) on sh r) (cm2 (I 119) (I 120) (I 126) on h sh r) 127 (r : Int).toNat = sh r from eov.trans es.symm, show ∀ o, AR I o (cm2 (I 119) (I 120) (I 126) on h sh r) 126 (oe (I 119) (I 120) r h).toNat = cm2 (I 119) (I 120) (I 126) on h sh r (oe (I 119) (I 120) r h).toNat from fun _ => rfl, ecm (), AR_126, cm2_on ho hb0, e1 ()]
        exact ih
    · refine ci_bt ho ?_
      rw [ov2_off ho, cm2_off ho, hl2, if_neg (fun q => ho q.1)] at ih
      rw [e1 ()]
      exact ih
  · refine (T_259_127 ..).trans ?_
    refine ci_f (show ¬ (m : Int) < I 82 7 by omega) ?_
    exact hR.symm
theorem S_259 {P m : Nat} {t : Int} {h : Nat} (hv : NV (I 119) (I 120) m P) (hP : P ≤ 80) (hm : m ≤ 150) (h7 : I 82 7 = m) (hh : h < P) (hw : ∀ r, r < m → 1 ≤ I 121 r ∧ I 121 r ≤ 100) (hst : 1 ≤ I 124 h ∧ I 124 h ≤ 80) (hc : 0 ≤ I 126 h ∧ I 126 h ≤ 1000000) (hcb : ∀ b, b < P → I 124 b = I 124 h - 1 → 0 ≤ I 126 b ∧ I 126 b ≤ 1000000) (hx : 0 < I 126 h) :
    Call PG (d + 3) 259 [(2, 82), (0, (h : Int)), (0, t)] (I, RF sp rt tt z.1, z) = some (none, (AR I (PRO (I 119) (I 120) (I 124) (I 121) (ok2 I t) m h (I 127, I 126)).1 (PRO (I 119) (I 120) (I 124) (I 121) (ok2 I t) m h (I 127, I 126)).2, RF sp rt tt z.1, z)) := by
  have hw0 : ∀ r, r < m → 0 ≤ I 121 r := fun r hr => by have := hw r hr; omega
  have hsw := SW_le (on := onb (I 119) (I 120) (I 124) (ok2 I t) h) hw
  have h60 := fun (o c : Nat → Int) (r : Nat) (hr : r < m) => S_260a (d := d) (sp := sp) (rt := rt) (tt := tt) (z := z) (o := o) (c := c) (t := t) hv hP hm hh hr hst
  have l3 : 0 ≤ (h : Int) ∧ (h : Int) < 80 := by omega
  refine (K_259 ..).trans ?_
  refine (T_259_0 ..).trans ?_
  refine loop_c (fun r => Run PG (Call PG (d + 2)) 259 5 [(2, 82), (0, (h : Int)), (0, t), (0, sm (fun q => if onb (I 119) (I 120) (I 124) (ok2 I t) h q = true then I 121 q else 0) r), (0, (r : Int)), (9, 0)] [] (I, RF sp rt tt z.1, z) (0, 0) = some (none, (AR I (PRO (I 119) (I 120) (I 124) (I 121) (ok2 I t) m h (I 127, I 126)).1 (PRO (I 119) (I 120) (I 124) (I 121) (ok2 I t) m h (I 127, I 126)).2, RF sp rt tt z.1, z))) m ?_ ?_
  · intro r hr ih
    have es : sm (fun q => if onb (I 119) (I 120) (I 124) (ok2 I t) h q = true then I 121 q else 0) (r + 1) = sm (fun q => if onb (I 119) (I 120) (I 124) (ok2 I t) h q = true then I 121 q else 0) r + (if onb (I 119) (I 120) (I 124) (ok2 I t) h r = true then I 121 r else 0) := rfl
    rw [es] at ih
    have b1 := hsw r (by omega)
    clear es
    generalize sm (fun q => if onb (I 119) (I 120) (I 124) (ok2 I t) h q = true then I 121 q else 0) r = w0 at *
    have h6' : 0 ≤ (r : Int) ∧ (r : Int) < 150 := ⟨Int.natCast_nonneg _, by omega⟩
    have hb := h60 (I 127) (I 126) r hr
    rw [AR_self] at hb
    refine (T_259_5 ..).trans ?_
    refine ci_t (show (r : Int) < I 82 7 by omega) ?_
    refine bd_t hb ?_
    refine (T_259_23 ..).trans ?_
    by_cases ho : onb (I 119) (I 120) (I 124) (ok2 I t) h r = true
    · have wr := hw r hr
      rw [if_pos ho] at ih
      refine ci_bf ho ?_
      refine ci_t h6' ?_
      rw [Int.toNat_natCast, w32_of (x := w0 + I 121 r) (by omega) (by omega), ws_n (by omega)]
      exact ih
    · rw [if_neg ho] at ih
      refine ci_bt ho ?_
      rw [w32_of (x := w0 + 0) (by omega) (by omega), ws_n (by omega)]
      exact ih
  · refine (T_259_5 ..).trans ?_
    refine ci_f (show ¬ (m : Int) < I 82 7 by omega) ?_
    refine ci_t l3 ?_
    rw [Int.toNat_natCast]
    by_cases hW : 0 < SW (onb (I 119) (I 120) (I 124) (ok2 I t) h) (I 121) m
    · have h3 := S_259c (d := d) (sp := sp) (rt := rt) (tt := tt) (z := z) (t := t) (W := SW (onb (I 119) (I 120) (I 124) (ok2 I t) h) (I 121) m) hv hP hm h7 hh hw hst hc hcb hx hW rfl
      have hvb : ∀ r, r < m → 0 ≤ vfl (onb (I 119) (I 120) (I 124) (ok2 I t) h) (I 121) m (I 126 h) r ∧ vfl (onb (I 119) (I 120) (I 124) (ok2 I t) h) (I 121) m (I 126 h) r ≤ 100000000 := fun r hr => vfl_b hc (hw r hr) hW
      have hLx : ∀ k, k ≤ m → 0 ≤ LF (onb (I 119) (I 120) (I 124) (ok2 I t) h) (I 121) m (I 126 h) k ∧ LF (onb (I 119) (I 120) (I 124) (ok2 I t) h) (I 121) m (I 126 h) k ≤ I 126 h := fun k hk => LF_in hc.1 hw0 hW hk
      have hLs : ∀ k, LF (onb (I 119) (I 120) (I 124) (ok2 I t) h) (I 121) m (I 126 h) (k + 1) = LF (onb (I 119) (I 120) (I 124) (ok2 I t) h) (I 121) m (I 126 h) k - (if onb (I 119) (I 120) (I 124) (ok2 I t) h k = true then vfl (onb (I 119) (I 120) (I 124) (ok2 I t) h) (I 121) m (I 126 h) k else 0) := fun k => (Int.sub_sub ..).symm
      have hL0 : LF (onb (I 119) (I 120) (I 124) (ok2 I t) h) (I 121) m (I 126 h) 0 = I 126 h := Int.sub_zero _
      have hvd : ∀ r, vfl (onb (I 119) (I 120) (I 124) (ok2 I t) h) (I 121) m (I 126 h) r = Int.tdiv (I 126 h * I 121 r) (SW (onb (I 119) (I 120) (I 124) (ok2 I t) h) (I 121) m) := fun r => rfl
      show Run PG (Call PG (d + 2)) 259 56 [(2, 82), (0, (h : Int)), (0, t), (0, SW (onb (I 119) (I 120) (I 124) (ok2 I t) h) (I 121) m), (0, I 126 h), (0, 0)] [] (I, RF sp rt tt z.1, z) (0, 0) = _
      generalize some (none, (AR I (PRO (I 119) (I 120) (I 124) (I 121) (ok2 I t) m h (I 127, I 126)).1 (PRO (I 119) (I 120) (I 124) (I 121) (ok2 I t) m h (I 127, I 126)).2, RF sp rt tt z.1, z)) = R at *
      generalize onb (I 119) (I 120) (I 124) (ok2 I t) h = on at *
      generalize SW on (I 121) m = W at *
      generalize vfl on (I 121) m (I 126 h) = vf at *
      generalize LF on (I 121) m (I 126 h) = LL at *
      have key : Run PG (Call PG (d + 2)) 259 56 [(2, 82), (0, (h : Int)), (0, t), (0, W), (0, LL 0), (0, ((0 : Nat) : Int))] [] (AR I (ov2 (I 127) on vf 0) (I 126), RF sp rt tt z.1, z) (0, 0) = R := by
        refine loop_c (fun r => Run PG (Call PG (d + 2)) 259 56 [(2, 82), (0, (h : Int)), (0, t), (0, W), (0, LL r), (0, (r : Int))] [] (AR I (ov2 (I 127) on vf r) (I 126), RF sp rt tt z.1, z) (0, 0) = R) m ?_ ?_
        · intro r hr ih
          have h6' : 0 ≤ (r : Int) ∧ (r : Int) < 150 := ⟨Int.natCast_nonneg _, by omega⟩
          have e1 : ∀ _ : Unit, w32 ((r : Int) + 1) = ((r + 1 : Nat) : Int) := fun _ => ws_n (by omega)
          refine (T_259_56 ..).trans ?_
          refine ci_t (show (r : Int) < I 82 7 by omega) ?_
          refine bd_t (h60 _ _ r hr) ?_
          refine (T_259_73 ..).trans ?_
          by_cases ho : on r = true
          · refine ci_bf ho ?_
            have v5 := hvb r hr
            have pb := prod_b hc (hw r hr)
            have l5 := hLx (r + 1) (by omega)
            rw [hLs, if_pos ho] at ih l5
            have wl : ∀ _ : Unit, w32 (LL r - vf r) = LL r - vf r := fun _ => w32_of (by omega) (by omega)
            have wp : ∀ _ : Unit, w32 (w64 (Int.tdiv (w64 (I 126 h * I 121 r)) W)) = vf r := fun _ => by
              rw [w64_of (x := I 126 h * I 121 r) (by omega) (by omega), ← hvd, w64_of (by omega) (by omega), w32_of (by omega) (by omega)]
            refine ci_t l3 ?_
            refine ci_t h6' ?_
            refine ite_f (by omega) ?_
            refine ci_t h6' ?_
            refine ci_t h6' ?_
            rw [Int.toNat_natCast, Int.toNat_natCast, show AR I (ov2 (I 127) on vf r) (I 126) 126 h = I 126 h from rfl, show AR I (ov2 (I 127) on vf r) (I 126) 121 r = I 121 r from rfl, wp (), up2_eq, wl (), AR_127, ov2_on ho, e1 ()]
            exact ih
          · refine ci_bt ho ?_
            rw [ov2_off ho, hLs, if_neg ho, Int.sub_zero] at ih
            rw [e1 ()]
            exact ih
        · refine (T_259_56 ..).trans ?_
          refine ci_f (show ¬ (m : Int) < I 82 7 by omega) ?_
          exact h3
      rw [hL0, ov2_0, AR_self] at key
      exact key
    · have hno : ∀ r, r < m → ¬ onb (I 119) (I 120) (I 124) (ok2 I t) h r = true := fun r hr ho => hW (SW_pos (P := P) (fun r hr => (hw r hr).1) hr ho)
      rw [PRO_no hno, show AR I (I 127, I 126).1 (I 127, I 126).2 = I from AR_self]
      have h61 := fun (r : Nat) (hr : r < m) => S_260 (d := d) (I := I) (sp := sp) (rt := rt) (tt := tt) (z := z) (t := t) hv hP hm hh hr hst
      refine loop_c (fun r => Run PG (Call PG (d + 2)) 259 56 [(2, 82), (0, (h : Int)), (0, t), (0, sm (fun q => if onb (I 119) (I 120) (I 124) (ok2 I t) h q = true then I 121 q else 0) m), (0, I 126 h), (0, (r : Int))] [] (I, RF sp rt tt z.1, z) (0, 0) = some (none, (I, RF sp rt tt z.1, z))) m ?_ ?_
      · intro r hr ih
        refine (T_259_56 ..).trans ?_
        refine ci_t (show (r : Int) < I 82 7 by omega) ?_
        refine bd_t (h61 r hr) ?_
        refine (T_259_73 ..).trans ?_
        refine ci_bt (hno r hr) ?_
        rw [ws_n (by omega)]
        exact ih
      · refine (T_259_56 ..).trans ?_
        refine ci_f (show ¬ (m : Int) < I 82 7 by omega) ?_
        refine loop_c (fun r => Run PG (Call PG (d + 2)) 259 127 [(2, 82), (0, (h : Int)), (0, t), (0, sm (fun q => if onb (I 119) (I 120) (I 124) (ok2 I t) h q = true then I 121 q else 0) m), (0, I 126 h), (0, (r : Int))] [] (I, RF sp rt tt z.1, z) (0, 0) = some (none, (I, RF sp rt tt z.1, z))) m ?_ ?_
        · intro r hr ih
          refine (T_259_127 ..).trans ?_
          refine ci_t (show (r : Int) < I 82 7 by omega) ?_
          refine bd_t (h61 r hr) ?_
          refine (T_259_144 ..).trans ?_
          refine ci_bt (hno r hr) ?_
          rw [ws_n (by omega)]
          exact ih
        · refine (T_259_127 ..).trans ?_
          exact ci_f (show ¬ (m : Int) < I 82 7 by omega) rfl
end P1

