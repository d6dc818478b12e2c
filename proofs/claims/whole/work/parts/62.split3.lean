/-! the class's splitAt, whole; the least air -/
section A3
variable {d : Nat} {I : Nat → Nat → Int} {sp rt : Nat} {tt : Nat → Nat} {z : Zs}
/-- the second loop -/
theorem S_63b {A B : Nat → Int} {P m : Nat} {h : Nat} {R : Option Res} (hC : CN A B P m (I 27) (I 28) (I 29)) (hh : h < P) (hw : ∀ r, r < m → 1 ≤ I 26 r ∧ I 26 r ≤ 100) (hst : -1 ≤ I 30 h ∧ I 30 h ≤ 80) (hc : 0 ≤ I 43 h ∧ I 43 h ≤ 1000000) (hcb : ∀ b, b < P → I 30 b = I 30 h - 1 → 0 ≤ I 43 b ∧ I 43 b ≤ 1000000) (hx : 0 < I 43 h) (hW : 0 < SW (onb A B (I 30) (ok1 I) h) (I 26) m)
    (hR : R = some (none, (AC I (PRO A B (I 30) (I 26) (ok1 I) m h (I 42, I 43)).1 (PRO A B (I 30) (I 26) (ok1 I) m h (I 42, I 43)).2, RF sp rt tt z.1, z))) :
    ∀ d6, dl d6 → Run PG (Call PG (d + 2)) 63 91 [(2, 38), (2, 25), (0, (h : Int)), (0, SW (onb A B (I 30) (ok1 I) h) (I 26) m), (0, I 43 h), (0, I 29 h), d6] [] (I, RF sp rt tt z.1, z) (0, 0) = R := by
  obtain ⟨hv, hP, hm⟩ := hC.1
  obtain ⟨l1, l2, l3, l4⟩ := hlim (h := h) (by omega)
  have hw0 : ∀ r, r < m → 0 ≤ I 26 r := fun r hr => by have := hw r hr; omega
  have h3 := S_63c (d := d) (sp := sp) (rt := rt) (tt := tt) (z := z) (W := SW (onb A B (I 30) (ok1 I) h) (I 26) m) hC hh hw hst hc hcb hx hW hR
  have hvb : ∀ r, r < m → 0 ≤ vfl (onb A B (I 30) (ok1 I) h) (I 26) m (I 43 h) r ∧ vfl (onb A B (I 30) (ok1 I) h) (I 26) m (I 43 h) r ≤ 100000000 := fun r hr => vfl_b hc (hw r hr) hW
  have hLx : ∀ k, k ≤ m → 0 ≤ LF (onb A B (I 30) (ok1 I) h) (I 26) m (I 43 h) k ∧ LF (onb A B (I 30) (ok1 I) h) (I 26) m (I 43 h) k ≤ I 43 h := fun k hk => LF_in hc.1 hw0 hW hk
  have hLs : ∀ k, LF (onb A B (I 30) (ok1 I) h) (I 26) m (I 43 h) (k + 1) = LF (onb A B (I 30) (ok1 I) h) (I 26) m (I 43 h) k - (if onb A B (I 30) (ok1 I) h k = true then vfl (onb A B (I 30) (ok1 I) h) (I 26) m (I 43 h) k else 0) := fun k => (Int.sub_sub ..).symm
  have hL0 : LF (onb A B (I 30) (ok1 I) h) (I 26) m (I 43 h) 0 = I 43 h := Int.sub_zero _
  have hon : ∀ r, onb A B (I 30) (ok1 I) h r = true → ¬ oe A B r h = -1 := fun r ho => (of_decide_eq_true ho).1
  have h64 := fun (o c : Nat → Int) (r : Nat) (hr : r < m) (inc : ¬ oe A B r h = -1) => S_64a (d := d) (sp := sp) (rt := rt) (tt := tt) (z := z) (o := o) (c := c) hC hh hr inc hst
  have hvd : ∀ r, vfl (onb A B (I 30) (ok1 I) h) (I 26) m (I 43 h) r = Int.tdiv (I 43 h * I 26 r) (SW (onb A B (I 30) (ok1 I) h) (I 26) m) := fun r => rfl
  generalize onb A B (I 30) (ok1 I) h = on at *
  generalize SW on (I 26) m = W at *
  generalize vfl on (I 26) m (I 43 h) = vf at *
  generalize LF on (I 26) m (I 43 h) = LL at *
  have e0 : I 29 h = I 29 h + ((cnt A B h 0 : Nat) : Int) := (Int.add_zero _).symm
  rw [e0]
  have key : ∀ d6, dl d6 → Run PG (Call PG (d + 2)) 63 91 [(2, 38), (2, 25), (0, (h : Int)), (0, W), (0, LL 0), (0, I 29 h + ((cnt A B h 0 : Nat) : Int)), d6] [] (AC I (ov2 (I 42) on vf 0) (I 43), RF sp rt tt z.1, z) (0, 0) = R := by
    refine loop_c (fun r => ∀ d6, dl d6 → Run PG (Call PG (d + 2)) 63 91 [(2, 38), (2, 25), (0, (h : Int)), (0, W), (0, LL r), (0, I 29 h + ((cnt A B h r : Nat) : Int)), d6] [] (AC I (ov2 (I 42) on vf r) (I 43), RF sp rt tt z.1, z) (0, 0) = R) m ?_ ?_
    · intro r hr ih d6 h6
      by_cases inc : oe A B r h = -1
      · have no : ¬ on r = true := fun w => hon r w inc
        rw [ov2_off no, hLs, if_neg no, Int.sub_zero, cnt_no hv hr inc] at ih
        exact ih d6 h6
      · obtain ⟨y1, y2, y3, y4, y5, y6⟩ := CN_h hC hh hr inc
        refine (T_63_91 (hx6 := h6) ..).trans ?_
        refine ci_t l1 ?_
        refine ci_t (by rw [l2]; exact y1.1) ?_
        refine ci_t y1.2 ?_
        refine ci_t y1.2 ?_
        refine bd_t (h64 _ _ r hr inc) ?_
        refine (T_63_127 ..).trans ?_
        rw [show ∀ o c j, AC I o c 28 j = I 28 j from fun _ _ _ => rfl, y4, y5]
        by_cases ho : on r = true
        · refine ci_bf ho ?_
          have h6' : 0 ≤ (r : Int) ∧ (r : Int) < 150 := ⟨Int.natCast_nonneg _, by omega⟩
          have v5 := hvb r hr
          have pb := prod_b hc (hw r hr)
          have l5 := hLx (r + 1) (by omega)
          rw [hLs, if_pos ho] at ih l5
          have wl : ∀ _ : Unit, w32 (LL r - vf r) = LL r - vf r := fun _ => w32_of (by omega) (by omega)
          have wp : ∀ _ : Unit, w32 (Int.tdiv (w32 (I 43 h * I 26 r)) W) = vf r := fun _ => by
            rw [w32_of (x := I 43 h * I 26 r) (by omega) (by omega), ← hvd, w32_of (by omega) (by omega)]
          refine ci_t l3 ?_
          refine ci_t h6' ?_
          refine ite_f (by omega) ?_
          refine ci_t h6' ?_
          refine ci_t h6' ?_
          rw [Int.toNat_natCast, Int.toNat_natCast, show AC I (ov2 (I 42) on vf r) (I 43) 43 h = I 43 h from rfl, show AC I (ov2 (I 42) on vf r) (I 43) 26 r = I 26 r from rfl, wp (), up2_eq, wl (), AC_42, ov2_on ho]
          exact ih _ (dl0 _)
        · refine ci_bt ho ?_
          rw [ov2_off ho, hLs, if_neg ho, Int.sub_zero] at ih
          exact ih _ (dl0 _)
    · intro d6 h6
      have fh := hC.2.2.1 h hh
      refine (T_63_91 (hx6 := h6) ..).trans ?_
      refine ci_t l1 ?_
      refine ci_f (by rw [l2]; show ¬ I 29 h + ((cnt A B h m : Nat) : Int) < I 29 (h + 1); omega) ?_
      refine ci_t l4 ?_
      have := h3 d6 h6
      rw [← e0] at this
      exact this
  rw [hL0, ov2_0, AC_self] at key
  exact key
theorem S_63 {A B : Nat → Int} {P m : Nat} {h : Nat} (hC : CN A B P m (I 27) (I 28) (I 29)) (hh : h < P) (hw : ∀ r, r < m → 1 ≤ I 26 r ∧ I 26 r ≤ 100) (hst : -1 ≤ I 30 h ∧ I 30 h ≤ 80) (hc : 0 ≤ I 43 h ∧ I 43 h ≤ 1000000) (hcb : ∀ b, b < P → I 30 b = I 30 h - 1 → 0 ≤ I 43 b ∧ I 43 b ≤ 1000000) :
    Call PG (d + 3) 63 [(2, 38), (2, 25), (0, (h : Int))] (I, RF sp rt tt z.1, z) = some (none, (AC I (PRO A B (I 30) (I 26) (ok1 I) m h (I 42, I 43)).1 (PRO A B (I 30) (I 26) (ok1 I) m h (I 42, I 43)).2, RF sp rt tt z.1, z)) := by
  obtain ⟨hv, hP, hm⟩ := hC.1
  obtain ⟨l1, l2, l3, l4⟩ := hlim (h := h) (by omega)
  have fh := hC.2.2.1 h hh
  refine (K_63 ..).trans ?_
  refine (T_63_0 ..).trans ?_
  refine ci_t l4 ?_
  rw [Int.toNat_natCast]
  have e0 : I 29 h = I 29 h + ((cnt A B h 0 : Nat) : Int) := (Int.add_zero _).symm
  by_cases hx : 0 < I 43 h
  · have hsw := SW_le (on := onb A B (I 30) (ok1 I) h) hw
    have hon : ∀ r, onb A B (I 30) (ok1 I) h r = true → ¬ oe A B r h = -1 := fun r ho => (of_decide_eq_true ho).1
    have h64 := fun (r : Nat) (hr : r < m) (inc : ¬ oe A B r h = -1) => S_64i (d := d) (sp := sp) (rt := rt) (tt := tt) (z := z) hC hh hr inc hst
    have key : Run PG (Call PG (d + 2)) 63 10 [(2, 38), (2, 25), (0, (h : Int)), (0, sm (fun q => if onb A B (I 30) (ok1 I) h q = true then I 26 q else 0) 0), (0, I 29 h + ((cnt A B h 0 : Nat) : Int)), (9, 0), (9, 0)] [] (I, RF sp rt tt z.1, z) (0, 0) = some (none, (AC I (PRO A B (I 30) (I 26) (ok1 I) m h (I 42, I 43)).1 (PRO A B (I 30) (I 26) (ok1 I) m h (I 42, I 43)).2, RF sp rt tt z.1, z)) := by
      refine loop_c (fun r => Run PG (Call PG (d + 2)) 63 10 [(2, 38), (2, 25), (0, (h : Int)), (0, sm (fun q => if onb A B (I 30) (ok1 I) h q = true then I 26 q else 0) r), (0, I 29 h + ((cnt A B h r : Nat) : Int)), (9, 0), (9, 0)] [] (I, RF sp rt tt z.1, z) (0, 0) = some (none, (AC I (PRO A B (I 30) (I 26) (ok1 I) m h (I 42, I 43)).1 (PRO A B (I 30) (I 26) (ok1 I) m h (I 42, I 43)).2, RF sp rt tt z.1, z))) m ?_ ?_
      · intro r hr ih
        have es : sm (fun q => if onb A B (I 30) (ok1 I) h q = true then I 26 q else 0) (r + 1) = sm (fun q => if onb A B (I 30) (ok1 I) h q = true then I 26 q else 0) r + (if onb A B (I 30) (ok1 I) h r = true then I 26 r else 0) := rfl
        rw [es] at ih
        have b1 := hsw r (by omega)
        clear es
        generalize sm (fun q => if onb A B (I 30) (ok1 I) h q = true then I 26 q else 0) r = w0 at *
        by_cases inc : oe A B r h = -1
        · rw [if_neg (fun w => hon r w inc), Int.add_zero, cnt_no hv hr inc] at ih
          exact ih
        · obtain ⟨y1, y2, y3, y4, y5, y6⟩ := CN_h hC hh hr inc
          refine (T_63_10 ..).trans ?_
          refine ci_t l1 ?_
          refine ci_t (by rw [l2]; exact y1.1) ?_
          refine ci_t l3 ?_
          refine ci_f (by rw [Int.toNat_natCast]; omega) ?_
          refine ci_t y1.2 ?_
          refine bd_t (h64 r hr inc) ?_
          refine (T_63_44 ..).trans ?_
          rw [y4, y5]
          by_cases ho : onb A B (I 30) (ok1 I) h r = true
          · have wr := hw r hr
            rw [if_pos ho] at ih
            refine ci_bf ho ?_
            refine ci_t y1.2 ?_
            refine ci_t ⟨Int.natCast_nonneg _, by omega⟩ ?_
            rw [Int.toNat_natCast, w32_of (x := w0 + I 26 r) (by omega) (by omega)]
            exact ih
          · rw [if_neg ho, Int.add_zero] at ih
            refine ci_bt ho ?_
            exact ih
      · refine (T_63_10 ..).trans ?_
        refine ci_t l1 ?_
        refine ci_f (by rw [l2]; show ¬ I 29 h + ((cnt A B h m : Nat) : Int) < I 29 (h + 1); omega) ?_
        by_cases c0 : SW (onb A B (I 30) (ok1 I) h) (I 26) m = 0
        · refine ci_t c0 ?_
          rw [PRO_no (fun r hr ho => by have := SW_pos (P := P) (fun r hr => (hw r hr).1) hr ho; omega)]
          exact congrArg (fun X => some (none, (X, RF sp rt tt z.1, z))) AC_self.symm
        · refine ci_f c0 ?_
          refine ci_t l3 ?_
          refine ci_t l4 ?_
          have hW : 0 < SW (onb A B (I 30) (ok1 I) h) (I 26) m := by
            have := (hsw m (Nat.le_refl m)).1
            unfold SW at c0 ⊢
            omega
          exact S_63b (d := d) (sp := sp) (rt := rt) (tt := tt) (z := z) hC hh hw hst hc hcb hx hW rfl _ dl9
    rw [← e0] at key
    exact key
  · rw [PRO_0 hx]
    have key : Run PG (Call PG (d + 2)) 63 10 [(2, 38), (2, 25), (0, (h : Int)), (0, 0), (0, I 29 h + ((cnt A B h 0 : Nat) : Int)), (9, 0), (9, 0)] [] (I, RF sp rt tt z.1, z) (0, 0) = some (none, (I, RF sp rt tt z.1, z)) := by
      refine loop_c (fun r => Run PG (Call PG (d + 2)) 63 10 [(2, 38), (2, 25), (0, (h : Int)), (0, 0), (0, I 29 h + ((cnt A B h r : Nat) : Int)), (9, 0), (9, 0)] [] (I, RF sp rt tt z.1, z) (0, 0) = some (none, (I, RF sp rt tt z.1, z))) m ?_ ?_
      · intro r hr ih
        by_cases inc : oe A B r h = -1
        · rw [cnt_no hv hr inc] at ih
          exact ih
        · obtain ⟨y1, y2, y3, y4, y5, y6⟩ := CN_h hC hh hr inc
          refine (T_63_10 ..).trans ?_
          refine ci_t l1 ?_
          refine ci_t (by rw [l2]; exact y1.1) ?_
          refine ci_t l3 ?_
          refine ci_t (by rw [Int.toNat_natCast]; omega) ?_
          rw [y5]
          exact ih
      · refine (T_63_10 ..).trans ?_
        refine ci_t l1 ?_
        refine ci_f (by rw [l2]; show ¬ I 29 h + ((cnt A B h m : Nat) : Int) < I 29 (h + 1); omega) ?_
        exact ci_t rfl rfl
    rw [← e0] at key
    rw [show AC I (I 42, I 43).1 (I 42, I 43).2 = I from AC_self]
    exact key
end A3

