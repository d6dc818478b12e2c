/-! the reference's walk -/
def RH (I : Nat → Nat → Int) (S : ST) : Nat → Nat → Int := pc (pc I 125 S.2.1) 124 S.1
theorem RH_up {I : Nat → Nat → Int} {S : ST} {b n : Nat} {v w x : Int} : up2 (up2 (RH I S) 124 b v) 125 n w = RH I (ud S.1 b v, ud S.2.1 n w, x) := by
  unfold RH
  rw [up2_pc, up2_pcn (by decide), up2_pc]
theorem RH_0 {I : Nat → Nat → Int} {f : Nat → Int} {a : Int} : up2 (up2 (pc I 124 f) 124 a.toNat 0) 125 0 a = RH I (bf0 f (I 125) a) := by
  unfold RH bf0
  rw [up2_pc, up2_pcn (by decide), up2_to (c := 125)]
section W2
variable {d : Nat} {I : Nat → Nat → Int} {sp rt : Nat} {tt : Nat → Nat} {z : Zs}
theorem S_257 {r a : Int} (hr : 0 ≤ r ∧ r < 150) : Call PG (d + 1) 257 [(2, 82), (0, r), (0, a)] (I, RF sp rt tt z.1, z) = some (some (0, oe (I 119) (I 120) r.toNat a), (I, RF sp rt tt z.1, z)) := by
  unfold oe
  refine (K_257 ..).trans ?_
  repeat' (first | refine ci_bt (by omega) ?_ | refine ci_bf (by omega) ?_ | refine ite_b01 ?_ | refine ci_b (fun _ => ?_) (fun _ => ?_) | refine ci_t (by omega) ?_ | refine ci_f (by omega) ?_ | refine ite_t (by omega) ?_ | refine ite_f (by omega) ?_ | refine (T_257_0 ..).trans ?_ | refine ci_c (fun _ => ?_) (fun _ => ?_))
  · rw [if_pos (by assumption)]
  · rw [if_neg (by assumption), if_pos (by assumption)]
  · rw [if_neg (by assumption), if_neg (by assumption)]
theorem S_258 {r t : Int} (hr : 0 ≤ r ∧ r < 150) : Call PG (d + 1) 258 [(2, 82), (0, r), (0, t)] (I, RF sp rt tt z.1, z) = some (some (0, bz (r = t ∧ ¬ I 123 r.toNat = 1 ∨ ¬ r = t ∧ ¬ I 123 r.toNat = 0)), (I, RF sp rt tt z.1, z)) := by
  refine (K_258 ..).trans ?_
  repeat' (first | refine ci_bt (by omega) ?_ | refine ci_bf (by omega) ?_ | refine ite_b01 ?_ | refine ci_b (fun _ => ?_) (fun _ => ?_) | refine ci_t (by omega) ?_ | refine ci_f (by omega) ?_ | refine ite_t (by omega) ?_ | refine ite_f (by omega) ?_ | refine (T_258_0 ..).trans ?_ | refine ci_c (fun _ => ?_) (fun _ => ?_))
  all_goals first | exact rb1 (by omega) | exact rb0 (by omega) | exact rbc (by omega)
set_option maxHeartbeats 1000000 in
theorem S_256 {P m : Nat} {a all t : Int} (hv : NV (I 119) (I 120) m P) (hP : I 82 6 = P ∧ P ≤ 80) (hm : I 82 7 = m ∧ m ≤ 150) (ha : 0 ≤ a ∧ a < P) : Call PG (d + 2) 256 [(2, 82), (0, a), (0, all), (0, t)] (I, RF sp rt tt z.1, z) = some (none, (RH I (bfs (I 119) (I 120) (okr I all t) m P (fl (I 124) P (-1)) (I 125) a), RF sp rt tt z.1, z)) := by
  have hf : ∀ b, b < P → fl (I 124) P (-1) b = -1 := fun b hb => fl_in hb
  refine (K_256 ..).trans ?_
  refine (T_256_0 ..).trans ?_
  have h := loop_p (fun (i : Nat) (f : Nat → Int) => ud f i (-1)) (fun (i : Nat) (f : Nat → Int) => Run PG (Call PG (d + 1)) 256 3 [(2, 82), (0, a), (0, all), (0, t), (0, (i : Int)), (9, 0), (9, 0), (9, 0)] [] (pc I 124 f, RF sp rt tt z.1, z) (0, 0) = some (none, (RH I (bfs (I 119) (I 120) (okr I all t) m P (fl (I 124) P (-1)) (I 125) a), RF sp rt tt z.1, z))) P (I 124) ?_ ?_
  · rw [pc_self] at h; exact h
  · intro i f hi hfi hr
    refine (T_256_3 ..).trans ?_
    refine ci_t (show (i : Int) < I 82 6 by omega) ?_
    refine ci_t (by omega) ?_
    rw [w32_of (by omega) (by omega), up2_pc]
    exact hr
  have e : ∀ i, itr (fun (i : Nat) (f : Nat → Int) => ud f i (-1)) i (I 124) = fl (I 124) i (-1) := by
    intro i
    induction i with
    | zero => exact fl_0.symm
    | succ i ih => show ud (itr _ i (I 124)) i (-1) = _; rw [ih, fl_s]
  rw [e]
  refine (T_256_3 ..).trans ?_
  refine ci_f (show ¬ (P : Int) < I 82 6 by omega) ?_
  refine ci_t (by omega) ?_
  refine ci_t (by omega) ?_
  rw [RH_0]
  refine loop_p (bfo (I 119) (I 120) (okr I all t) m) (fun (k : Nat) (S : ST) => ∀ d6, dl d6 → ∀ d7, dl d7 → Run PG (Call PG (d + 1)) 256 46 [(2, 82), (0, a), (0, all), (0, t), (0, S.2.2), (0, (k : Int)), d6, d7] [] (RH I S, RF sp rt tt z.1, z) (0, 0) = some (none, (RH I (bfs (I 119) (I 120) (okr I all t) m P (fl (I 124) P (-1)) (I 125) a), RF sp rt tt z.1, z))) P (bf0 (fl (I 124) P (-1)) (I 125) a) ?_ ?_ _ dl9 _ dl9
  · intro k S hk hS hr d6 h6 d7 h7
    have hB : BI (I 119) (I 120) (okr I all t) m P k S := by rw [hS]; exact BI_all hv hf ha k
    have hle := BI_le hB
    by_cases c : (k : Int) < S.2.2
    · have hrow := hB.1.2 k c
      have ebf : bfo (I 119) (I 120) (okr I all t) m k S = itr (bst (I 119) (I 120) (okr I all t) (S.2.1 k)) m S := if_pos c
      rw [ebf] at hr
      refine (T_256_46 (hx6 := h6) (hx7 := h7) ..).trans ?_
      refine ci_t c ?_
      have hJ : ∀ r, r ≤ m → BJ (I 119) (I 120) (okr I all t) m P k (S.2.1 k) r (itr (bst (I 119) (I 120) (okr I all t) (S.2.1 k)) r S) := fun r hr => bst_itr hv hB c hr
      have hh : 0 ≤ S.2.1 k ∧ S.2.1 k < P := hrow.1
      refine loop_p (bst (I 119) (I 120) (okr I all t) (S.2.1 k)) (fun (r : Nat) (Q : ST) => ∀ d7, dl d7 → Run PG (Call PG (d + 1)) 256 56 [(2, 82), (0, a), (0, all), (0, t), (0, Q.2.2), (0, (k : Int)), (0, (r : Int)), d7] [] (RH I Q, RF sp rt tt z.1, z) (0, 0) = some (none, (RH I (bfs (I 119) (I 120) (okr I all t) m P (fl (I 124) P (-1)) (I 125) a), RF sp rt tt z.1, z))) m S ?_ ?_ _ h7
      · intro r Q hrm hQ hr6 d7 h7
        have hr150 : 0 ≤ (r : Int) ∧ (r : Int) < 150 := ⟨Int.natCast_nonneg _, by omega⟩
        have hj := hJ r (by omega)
        rw [← hQ] at hj
        have ek : RH I Q 125 (k : Int).toNat = S.2.1 k := hj.2.1.2
        refine (T_256_56 (hx7 := h7) ..).trans ?_
        refine ci_t (show (r : Int) < I 82 7 by omega) ?_
        refine ci_t (by omega) ?_
        rw [ek]
        generalize S.2.1 k = h at *
        refine bd_t (S_257 (I := RH I Q) (by omega)) ?_
        refine (T_256_78 (hx7 := h7) ..).trans ?_
        rw [show oe (RH I Q 119) (RH I Q 120) (r : Int).toNat h = oe (I 119) (I 120) r h from rfl]
        have e3 : w32 ((r : Int) + 1) = ((r + 1 : Nat) : Int) := by rw [w32_of (by omega) (by omega)]; omega
        by_cases inc : oe (I 119) (I 120) r h = -1
        · refine ci_t inc ?_
          have e : bst (I 119) (I 120) (okr I all t) h r Q = Q := if_neg (fun q => q.1 inc)
          rw [e] at hr6
          rw [e3]
          exact hr6 _ (dl0 _)
        · refine ci_f inc ?_
          have hb := oe_in hv hrm hh.1 inc
          have hst := hj.1.1.2 k hj.2.1.1
          rw [hj.2.1.2] at hst
          have hn := BI_le hj.1
          refine ci_t (by omega) ?_
          rw [e3]
          by_cases c2 : Q.1 (oe (I 119) (I 120) r h).toNat = -1
          · refine ci_t c2 ?_
            have nsn : Q.2.2 < P := by
              have w1 := hj.1.1.1.2
              have w2 := sm_bzle (c := fun b => ¬ ud Q.1 (oe (I 119) (I 120) r h).toNat 0 b = -1) P
              rw [sm_cnt (by omega) c2 (by omega)] at w2
              omega
            have ek : RH I Q 125 (k : Int).toNat = h := hj.2.1.2
            by_cases c3 : all = 0
            · refine ci_t c3 ?_
              have s8 := S_258 (d := d) (I := RH I Q) (sp := sp) (rt := rt) (tt := tt) (z := z) (r := (r : Int)) (t := t) hr150
              rw [show RH I Q 123 (r : Int).toNat = I 123 r from rfl] at s8
              refine bd_t s8 ?_
              refine (T_256_108 ..).trans ?_
              by_cases c4 : (r : Int) = t ∧ ¬ I 123 r = 1 ∨ ¬ (r : Int) = t ∧ ¬ I 123 r = 0
              · refine ci_bf c4 ?_
                refine ci_t (by omega) ?_
                rw [ek]
                refine ci_t (by omega) ?_
                refine ci_t (by omega) ?_
                refine ci_t (show 0 ≤ Q.2.2 ∧ Q.2.2 < 80 by omega) ?_
                have e : bst (I 119) (I 120) (okr I all t) h r Q = _ := if_pos ⟨inc, c2, decide_eq_true (Or.inr c4)⟩
                rw [e] at hr6
                rw [show RH I Q 124 h.toNat = Q.1 h.toNat from rfl, w32_of (x := Q.1 h.toNat + 1) (by omega) (by omega), w32_of (x := Q.2.2 + 1) (by omega) (by omega), RH_up (x := Q.2.2 + 1), e3]
                exact hr6 _ (dl0 _)
              · refine ci_bt c4 ?_
                have e : bst (I 119) (I 120) (okr I all t) h r Q = Q := if_neg (fun q => by
                  rcases of_decide_eq_true q.2.2 with w | w
                  · exact w c3
                  · exact c4 w)
                rw [e] at hr6
                rw [e3]
                exact hr6 _ (dl0 _)
            · refine ci_f c3 ?_
              refine ci_t (by omega) ?_
              rw [ek]
              refine ci_t (by omega) ?_
              refine ci_t (by omega) ?_
              refine ci_t (show 0 ≤ Q.2.2 ∧ Q.2.2 < 80 by omega) ?_
              have e : bst (I 119) (I 120) (okr I all t) h r Q = _ := if_pos ⟨inc, c2, decide_eq_true (Or.inl c3)⟩
              rw [e] at hr6
              rw [show RH I Q 124 h.toNat = Q.1 h.toNat from rfl, w32_of (x := Q.1 h.toNat + 1) (by omega) (by omega), w32_of (x := Q.2.2 + 1) (by omega) (by omega), RH_up (x := Q.2.2 + 1)]
              exact hr6 _ (dl0 _)
          · refine ci_f c2 ?_
            have e : bst (I 119) (I 120) (okr I all t) h r Q = Q := if_neg (fun q => c2 q.2.1)
            rw [e] at hr6
            exact hr6 _ (dl0 _)
      · intro d7 h7
        refine (T_256_56 (hx7 := h7) ..).trans ?_
        refine ci_f (show ¬ (m : Int) < I 82 7 by omega) ?_
        rw [w32_of (by omega) (by omega)]
        exact hr _ (dl0 _) _ h7
    · have ebf : bfo (I 119) (I 120) (okr I all t) m k S = S := if_neg c
      rw [ebf] at hr
      have r1 := hr d6 h6 d7 h7
      refine (T_256_46 (hx6 := h6) (hx7 := h7) ..).trans ?_
      refine (ci_f c rfl).trans ?_
      refine Eq.trans ?_ r1
      refine Eq.symm ((T_256_46 (hx6 := h6) (hx7 := h7) ..).trans ?_)
      exact ci_f (show ¬ ((k + 1 : Nat) : Int) < S.2.2 by omega) rfl
  · intro d6 h6 d7 h7
    have hB := BI_all (A := I 119) (B := I 120) (ok := okr I all t) (m := m) (g := I 125) hv hf ha P
    have hle := BI_le hB
    refine (T_256_46 (hx6 := h6) (hx7 := h7) ..).trans ?_
    exact ci_f (show ¬ (P : Int) < (itr (bfo (I 119) (I 120) (okr I all t) m) P (bf0 (fl (I 124) P (-1)) (I 125) a)).2.2 by omega) rfl
end W2

