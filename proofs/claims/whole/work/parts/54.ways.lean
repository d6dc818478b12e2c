/-! the class's search for ways -/
def EL (A G f : Nat → Int) : Nat → Int := fun j => if j < 80 then (if f j = -1 then -1 else if A (f j).toNat = (j : Int) then 2 * f j + 1 else 2 * f j) else G j
theorem EL_0 {A G : Nat → Int} : fl G 80 (-1) = EL A G (fun _ => -1) := by
  funext j
  unfold fl EL
  by_cases h : j < 80
  · rw [if_pos h, if_pos h, if_pos rfl]
  · rw [if_neg h, if_neg h]
theorem EL_ud {A G f : Nat → Int} {b r : Nat} {e : Int} (hb : b < 80) (he : e = if A r = (b : Int) then 2 * (r : Int) + 1 else 2 * (r : Int)) : ud (EL A G f) b e = EL A G (ud f b r) := by
  funext j
  by_cases h : j = b
  · subst h
    rw [ud_eq]
    unfold EL
    rw [if_pos hb, ud_eq, if_neg (by omega), he]; rfl
  · rw [ud_ne h]
    unfold EL
    rw [ud_ne h]
theorem EL_at {A G f : Nat → Int} {b : Nat} (hb : b < 80) : EL A G f b = if f b = -1 then -1 else if A (f b).toNat = (b : Int) then 2 * f b + 1 else 2 * f b := if_pos hb
def FH (I : Nat → Nat → Int) (A : Nat → Int) (S : ST) : Nat → Nat → Int := pc (pc (up2 I 25 8 S.2.2) 31 S.2.1) 36 (EL A (I 36) S.1)
theorem FH_up {I : Nat → Nat → Int} {A : Nat → Int} {S : ST} {b n r : Nat} {e w x : Int} (hb : b < 80) (he : e = if A r = (b : Int) then 2 * (r : Int) + 1 else 2 * (r : Int)) : up2 (up2 (up2 (FH I A S) 36 b e) 31 n w) 25 8 x = FH I A (ud S.1 b r, ud S.2.1 n w, x) := by
  unfold FH
  rw [up2_pc, EL_ud hb he, up2_pcn (by decide), up2_pc, up2_pcn (by decide), up2_pcn (by decide), up2_up2]
theorem FH_0 {I : Nat → Nat → Int} {A : Nat → Int} {a : Int} : up2 (up2 (pc I 36 (fl (I 36) 80 (-1))) 31 0 a) 25 8 1 = FH I A (fs0 (fun _ => -1) (I 31) a) := by
  unfold FH fs0
  rw [EL_0 (A := A), up2_pcn (by decide), up2_to (c := 31), up2_pcn (by decide), up2_pcn (by decide)]
section F1
variable {d : Nat} {I : Nat → Nat → Int} {sp rt : Nat} {tt : Nat → Nat} {z : Zs}
theorem S_71e {r : Nat} (h : r < 150) : Call PG (d + 1) 71 [(0, 2 * (r : Int))] (I, RF sp rt tt z.1, z) = some (some (0, 1), (I, RF sp rt tt z.1, z)) := S_71.trans (eqv (if_pos (ia_e h)))
theorem S_71o {r : Nat} (h : r < 150) : Call PG (d + 1) 71 [(0, 2 * (r : Int) + 1)] (I, RF sp rt tt z.1, z) = some (some (0, -1), (I, RF sp rt tt z.1, z)) := S_71.trans (eqv (if_neg (by rw [ia_o h]; decide)))
set_option maxHeartbeats 1000000 in
theorem S_70 {A B : Nat → Int} {P m : Nat} {a t : Int} (hC : CN A B P m (I 27) (I 28) (I 29)) (ha : 0 ≤ a ∧ a < P) (ht : 0 ≤ t ∧ t < P) (hb : ∀ r, r < m → -1 ≤ I 35 r ∧ I 35 r ≤ 1) : Call PG (d + 2) 70 [(2, 25), (0, a), (0, t)] (I, RF sp rt tt z.1, z) = some (some (0, if (FS A B (I 35) a t m P (fun _ => -1) (I 31)).1 t.toNat = -1 then 0 else 1), (FH I A (FS A B (I 35) a t m P (fun _ => -1) (I 31)), RF sp rt tt z.1, z)) := by
  obtain ⟨hv, hP, hm⟩ := hC.1
  refine (K_70 ..).trans ?_
  refine (T_70_0 ..).trans ?_
  refine bd_t (S_344 (c := 36) (n := 80) rfl (by omega)) ?_
  refine (T_70_8 ..).trans ?_
  refine ci_t (by omega) ?_
  rw [FH_0 (A := A)]
  have hend : ∀ (S : ST) (X : Option Res), FI A B (I 35) a m P S → (∀ b, b < P → S.1 b = (FS A B (I 35) a t m P (fun _ => -1) (I 31)).1 b) → S = FS A B (I 35) a t m P (fun _ => -1) (I 31) → ci (0 ≤ t ∧ t < 80) (ci (FH I A S 36 t.toNat = -1) (some (some (0, 0), (FH I A S, RF sp rt tt z.1, z))) (some (some (0, 1), (FH I A S, RF sp rt tt z.1, z)))) X = some (some (0, if (FS A B (I 35) a t m P (fun _ => -1) (I 31)).1 t.toNat = -1 then 0 else 1), (FH I A (FS A B (I 35) a t m P (fun _ => -1) (I 31)), RF sp rt tt z.1, z)) := by
    intro S X hS hq he
    subst he
    refine ci_t (by omega) ?_
    have e : FH I A (FS A B (I 35) a t m P (fun _ => -1) (I 31)) 36 t.toNat = _ := EL_at (A := A) (G := I 36) (f := (FS A B (I 35) a t m P (fun _ => -1) (I 31)).1) (b := t.toNat) (by omega)
    rcases hS.2.2.1 t.toNat (by omega) with q | ⟨q, -⟩
    · rw [if_pos q] at e
      rw [if_pos q]
      exact ci_t e rfl
    · rw [if_neg (by omega)] at e
      rw [if_neg (by omega)]
      refine ci_f (fun w => ?_) rfl
      rw [w] at e
      split at e <;> omega
  refine loop_p (ffo A B (I 35) a t m) (fun (k : Nat) (S : ST) => ∀ d4, dl d4 → ∀ d5, dl d5 → ∀ d6, dl d6 → ∀ d7, dl d7 → Run PG (Call PG (d + 1)) 70 22 [(2, 25), (0, a), (0, t), (0, (k : Int)), d4, d5, d6, d7] [] (FH I A S, RF sp rt tt z.1, z) (0, 0) = some (some (0, if (FS A B (I 35) a t m P (fun _ => -1) (I 31)).1 t.toNat = -1 then 0 else 1), (FH I A (FS A B (I 35) a t m P (fun _ => -1) (I 31)), RF sp rt tt z.1, z))) P (fs0 (fun _ => -1) (I 31) a) ?_ ?_ _ dl9 _ dl9 _ dl9 _ dl9
  · intro k S hk hS hr d4 h4 d5 h5 d6 h6 d7 h7
    have hB : FI A B (I 35) a m P S := by rw [hS]; exact FI_all hv (fun _ _ => rfl) ha k
    have hle := FI_le ha hB
    have et : FH I A S 36 t.toNat = _ := EL_at (A := A) (G := I 36) (f := S.1) (b := t.toNat) (by omega)
    by_cases c : (k : Int) < S.2.2 ∧ S.1 t.toNat = -1
    · have hrow := hB.2.1 k c.1
      have ebf : ffo A B (I 35) a t m k S = itr (fss A B (I 35) a (S.2.1 k)) m S := if_pos c
      rw [ebf] at hr
      rw [if_pos c.2] at et
      refine (T_70_22 (hx4 := h4) (hx5 := h5) (hx6 := h6) (hx7 := h7) ..).trans ?_
      refine ci_t c.1 ?_
      refine ci_t (by omega) ?_
      refine ci_t (by omega) ?_
      refine ci_t et ?_
      refine ci_t (by omega) ?_
      refine ci_t (show 0 ≤ S.2.1 k ∧ S.2.1 k < 81 by omega) ?_
      have hJ := FI_in (A := A) (B := B) (fw := I 35) hv ha hB c.1
      show Run PG (Call PG (d + 1)) 70 66 [(2, 25), (0, a), (0, t), (0, (k : Int)), (0, S.2.1 k), (0, I 29 (S.2.1 k).toNat), d6, d7] [] (FH I A S, RF sp rt tt z.1, z) (0, 0) = _
      generalize S.2.1 k = h at *
      have hh : 0 ≤ h ∧ h < P := hrow
      have e0 : I 29 h.toNat = I 29 h.toNat + ((cnt A B h 0 : Nat) : Int) := (Int.add_zero _).symm
      rw [e0]
      have e1 : w32 (h + 1) = h + 1 := w32_of (by omega) (by omega)
      have e2 : (h + 1).toNat = h.toNat + 1 := by omega
      have fh := hC.2.2.1 h.toNat (by omega)
      have eh : ((h.toNat : Nat) : Int) = h := by omega
      rw [eh] at fh
      refine loop_p (fss A B (I 35) a h) (fun (r : Nat) (Q : ST) => ∀ d6, dl d6 → ∀ d7, dl d7 → Run PG (Call PG (d + 1)) 70 66 [(2, 25), (0, a), (0, t), (0, (k : Int)), (0, h), (0, I 29 h.toNat + ((cnt A B h r : Nat) : Int)), d6, d7] [] (FH I A Q, RF sp rt tt z.1, z) (0, 0) = some (some (0, if (FS A B (I 35) a t m P (fun _ => -1) (I 31)).1 t.toNat = -1 then 0 else 1), (FH I A (FS A B (I 35) a t m P (fun _ => -1) (I 31)), RF sp rt tt z.1, z))) m S ?_ ?_ _ h6 _ h7
      · intro r Q hrm hQ hr6 d6 h6 d7 h7
        have hj := hJ r (by omega)
        rw [← hQ] at hj
        by_cases inc : oe A B r h = -1
        · have e : fss A B (I 35) a h r Q = Q := if_neg (fun q => q.1 inc)
          have hr6 := hr6 d6 h6 d7 h7
          rw [e, cnt_no hv hrm inc] at hr6
          exact hr6
        · obtain ⟨x0, x1, x2, x3, x4, x5⟩ := CN_at hC hh hrm inc
          have hb2 := oe_in hv hrm hh.1 inc
          have hsy := oe_sym hv hrm hh.1 (b := oe A B r h) rfl inc
          have e3 : w32 (I 29 h.toNat + ((cnt A B h r : Nat) : Int) + 1) = I 29 h.toNat + ((cnt A B h (r + 1) : Nat) : Int) := by rw [x0, w32_of (by omega) (by omega)]; omega
          have hn := FI_le ha hj.1
          have nv := hv r hrm
          have r150 : r < 150 := by omega
          have bf := hb r hrm
          refine (T_70_66 (hx6 := h6) (hx7 := h7) ..).trans ?_
          rw [e1, e2]
          refine ci_t (by omega) ?_
          refine ci_t x1.2.1 ?_
          refine ci_t ⟨x1.1, x1.2.2⟩ ?_
          refine ci_t x2 ?_
          rw [show ∀ j, FH I A Q 27 j = I 27 j from fun _ => rfl, show ∀ j, FH I A Q 28 j = I 28 j from fun _ => rfl, show ∀ j, FH I A Q 35 j = I 35 j from fun _ => rfl, x3, x4, e3]
          by_cases c1 : oe A B r h = a
          · refine ci_t c1 ?_
            have e : fss A B (I 35) a h r Q = Q := if_neg (fun q => q.2.1 c1)
            rw [e] at hr6
            exact hr6 _ (dl0 _) _ (dl0 _)
          refine ci_f c1 ?_
          refine ci_t (by omega) ?_
          have eQ : FH I A Q 36 (oe A B r h).toNat = _ := EL_at (A := A) (G := I 36) (f := Q.1) (b := (oe A B r h).toNat) (by omega)
          by_cases c2 : Q.1 (oe A B r h).toNat = -1
          · rw [if_pos c2] at eQ
            refine ci_t eQ ?_
            refine ci_t (by omega) ?_
            have nsn : Q.2.2 < P := by
              have w1 := hj.1.1.1.2
              have w0 := hj.1.1.2.2
              have w2 := sm_bzle (c := fun b => ¬ ud (ud Q.1 a.toNat 0) (oe A B r h).toNat 0 b = -1) P
              rw [sm_cnt (by omega) (by rw [ud_ne (by omega)]; exact c2) (by omega), sm_cnt (by omega) w0 (by omega)] at w2
              omega
            rcases x5 with ⟨y1, y2⟩ | ⟨y0, y1, y2⟩
            · rw [y2]
              refine bd_t (S_71e r150) ?_
              refine (T_70_131 ..).trans ?_
              have eq : (2 * (r : Int)) = if A r = (((oe A B r h).toNat : Nat) : Int) then 2 * (r : Int) + 1 else 2 * (r : Int) := by rw [if_neg (by omega)]
              by_cases c4 : I 35 r = 1
              · refine ci_t c4 ?_
                have e : fss A B (I 35) a h r Q = Q := if_neg (fun q => by
                  have q4 := cgb_iff.mp q.2.2.2
                  unfold cg at q4
                  rcases q4 with u | u <;> omega)
                rw [e] at hr6
                rw [e3]
                exact hr6 _ (dl0 _) _ (dl0 _)
              · refine ci_f c4 ?_
                refine ci_t (by omega) ?_
                refine ci_t (show 0 ≤ Q.2.2 ∧ Q.2.2 < 80 by omega) ?_
                have e : fss A B (I 35) a h r Q = _ := if_pos ⟨inc, c1, c2, cgb_iff.mpr (Or.inl ⟨y1, by omega⟩)⟩
                rw [e] at hr6
                rw [show FH I A Q 25 8 = Q.2.2 from rfl, w32_of (x := Q.2.2 + 1) (by omega) (by omega), FH_up (r := r) (by omega) eq, e3]
                exact hr6 _ (dl0 _) _ (dl0 _)
            · rw [y2]
              refine bd_t (S_71o r150) ?_
              refine (T_70_131 ..).trans ?_
              have eo : oe A B r h = A r := by unfold oe; rw [if_neg y0, if_pos y1]
              have eq : (2 * (r : Int) + 1) = if A r = (((oe A B r h).toNat : Nat) : Int) then 2 * (r : Int) + 1 else 2 * (r : Int) := by rw [if_pos (by omega)]
              by_cases c4 : I 35 r = -1
              · refine ci_t c4 ?_
                have e : fss A B (I 35) a h r Q = Q := if_neg (fun q => by
                  have q4 := cgb_iff.mp q.2.2.2
                  unfold cg at q4
                  rcases q4 with u | u <;> omega)
                rw [e] at hr6
                rw [e3]
                exact hr6 _ (dl0 _) _ (dl0 _)
              · refine ci_f c4 ?_
                refine ci_t (by omega) ?_
                refine ci_t (show 0 ≤ Q.2.2 ∧ Q.2.2 < 80 by omega) ?_
                have e : fss A B (I 35) a h r Q = _ := if_pos ⟨inc, c1, c2, cgb_iff.mpr (Or.inr ⟨y0, by omega⟩)⟩
                rw [e] at hr6
                rw [show FH I A Q 25 8 = Q.2.2 from rfl, w32_of (x := Q.2.2 + 1) (by omega) (by omega), FH_up (r := r) (by omega) eq, e3]
                exact hr6 _ (dl0 _) _ (dl0 _)
          · have q0 : 0 ≤ Q.1 (oe A B r h).toNat := by
              rcases hj.1.2.2.1 (oe A B r h).toNat (by omega) with q | ⟨q, -⟩
              · exact absurd q c2
              · exact q.1
            rw [if_neg c2] at eQ
            refine ci_f (fun w => by
              rw [w] at eQ
              split at eQ <;> omega) ?_
            have e : fss A B (I 35) a h r Q = Q := if_neg (fun q => c2 q.2.2.1)
            rw [e] at hr6
            exact hr6 _ (dl0 _) _ (dl0 _)
      · intro d6 h6 d7 h7
        refine (T_70_66 (hx6 := h6) (hx7 := h7) ..).trans ?_
        rw [e1, e2]
        refine ci_t (by omega) ?_
        refine ci_f (show ¬ I 29 h.toNat + ((cnt A B h m : Nat) : Int) < I 29 (h.toNat + 1) by omega) ?_
        rw [w32_of (by omega) (by omega)]
        exact hr _ (dl0 _) _ (dl0 _) _ h6 _ h7
    · have ebf : ffo A B (I 35) a t m k S = S := if_neg c
      -- the search has ended: nothing changes any more
      have hst : ∀ q, ffo A B (I 35) a t m (k + q) S = S := fun q => if_neg (fun w => c ⟨by omega, w.2⟩)
      have hfin : S = FS A B (I 35) a t m P (fun _ => -1) (I 31) := by
        have h2 : ∀ q, itr (ffo A B (I 35) a t m) (k + q) (fs0 (fun _ => -1) (I 31) a) = S := by
          intro q
          induction q with
          | zero => exact hS.symm
          | succ q ih =>
            show ffo A B (I 35) a t m (k + q) (itr (ffo A B (I 35) a t m) (k + q) (fs0 (fun _ => -1) (I 31) a)) = S
            rw [ih]; exact hst q
        have h3 := h2 (P - k)
        rw [show k + (P - k) = P by omega] at h3
        exact h3.symm
      have he := fun X => hend S X hB (fun b _ => by rw [← hfin]) hfin
      refine (T_70_22 (hx4 := h4) (hx5 := h5) (hx6 := h6) (hx7 := h7) ..).trans ?_
      by_cases c1 : (k : Int) < S.2.2
      · refine ci_t c1 ?_
        refine ci_t (by omega) ?_
        refine ci_t (by omega) ?_
        have c2 : ¬ S.1 t.toNat = -1 := fun w => c ⟨c1, w⟩
        rw [if_neg c2] at et
        refine ci_f (fun w => by
          rw [w] at et
          rcases hB.2.2.1 t.toNat (by omega) with q | ⟨q, -⟩
          · exact c2 q
          · split at et <;> omega) ?_
        exact he _
      · refine ci_f c1 ?_
        exact he _
  · intro d4 h4 d5 h5 d6 h6 d7 h7
    have hB := FI_all (A := A) (B := B) (fw := I 35) (t := t) (m := m) (g := I 31) (f := fun _ => -1) hv (fun _ _ => rfl) ha P
    have hle := FI_le ha hB
    refine (T_70_22 (hx4 := h4) (hx5 := h5) (hx6 := h6) (hx7 := h7) ..).trans ?_
    refine ci_f (show ¬ (P : Int) < (itr (ffo A B (I 35) a t m) P (fs0 (fun _ => -1) (I 31) a)).2.2 by omega) ?_
    exact hend _ _ hB (fun _ _ => rfl) rfl
end F1

