/-! the class's walk and the reference's are the same walk -/
def pc (I : Nat → Nat → Int) (c : Nat) (f : Nat → Int) : Nat → Nat → Int := fun a j => if a = c then f j else I a j
theorem pc_at {I : Nat → Nat → Int} {c j : Nat} {f : Nat → Int} : pc I c f c j = f j := if_pos rfl
theorem pc_ne {I : Nat → Nat → Int} {c a j : Nat} {f : Nat → Int} (h : a ≠ c) : pc I c f a j = I a j := if_neg h
theorem pc_self {I : Nat → Nat → Int} {c : Nat} : pc I c (I c) = I := by
  funext a j
  unfold pc
  split
  · rename_i h; rw [h]
  · rfl
theorem up2_pc {I : Nat → Nat → Int} {c j : Nat} {f : Nat → Int} {x : Int} : up2 (pc I c f) c j x = pc I c (ud f j x) := by
  funext a k
  unfold up2 pc ud
  by_cases h : a = c
  · by_cases h2 : k = j
    · rw [if_pos ⟨h, h2⟩, if_pos h, if_pos h2]
    · rw [if_neg (fun q => h2 q.2), if_pos h, if_pos h, if_neg h2]
  · rw [if_neg (fun q => h q.1), if_neg h, if_neg h]
theorem up2_pcn {I : Nat → Nat → Int} {a c j : Nat} {f : Nat → Int} {x : Int} (h : a ≠ c) : up2 (pc I c f) a j x = pc (up2 I a j x) c f := by
  funext b k
  unfold up2 pc
  by_cases h1 : b = c
  · rw [if_pos h1, if_neg (fun q => h (q.1.symm.trans h1)), if_pos h1]
  · rw [if_neg h1, if_neg h1]
theorem up2_up2 {I : Nat → Nat → Int} {a j : Nat} {x y : Int} : up2 (up2 I a j x) a j y = up2 I a j y := by
  funext b k
  unfold up2
  split
  · rfl
  · rfl
theorem up2_to {I : Nat → Nat → Int} {c j : Nat} {x : Int} : up2 I c j x = pc I c (ud (I c) j x) := by
  rw [← up2_pc, pc_self]
def fl (f : Nat → Int) (n : Nat) (v : Int) : Nat → Int := fun j => if j < n then v else f j
theorem fl_0 {f : Nat → Int} {v : Int} : fl f 0 v = f := by funext j; exact if_neg (Nat.not_lt_zero _)
theorem fl_s {f : Nat → Int} {n : Nat} {v : Int} : ud (fl f n v) n v = fl f (n + 1) v := by
  funext j
  unfold ud fl
  by_cases h : j = n
  · rw [if_pos h, if_pos (by omega)]
  · rw [if_neg h]
    by_cases h2 : j < n
    · rw [if_pos h2, if_pos (by omega)]
    · rw [if_neg h2, if_neg (by omega)]
theorem fl_in {f : Nat → Int} {n j : Nat} {v : Int} (h : j < n) : fl f n v j = v := if_pos h
section W0
variable {d : Nat} {I : Nat → Nat → Int} {sp rt : Nat} {tt : Nat → Nat} {z : Zs}
theorem S_344 {c n : Nat} {v : Int} (hl : LAY c = (20, n)) (hn : n ≤ 5000) : Call PG (d + 1) 344 [(2, ((c : Nat) : Int)), (0, v)] (I, RF sp rt tt z.1, z) = some (none, (pc I c (fl (I c) n v), RF sp rt tt z.1, z)) := by
  have l1 : (LAY c).1 = 20 := by rw [hl]
  have l2 : ((LAY c).2 : Int) = n := by rw [hl]
  refine (K_344 ..).trans ?_
  refine (T_344_0 ..).trans ?_
  refine ite_t (by omega) ?_
  rw [l2]
  have h := loop_p (fun (i : Nat) (f : Nat → Int) => ud f i v) (fun (i : Nat) (f : Nat → Int) => Run PG (Call PG d) 344 5 [(2, ((c : Nat) : Int)), (0, v), (0, (i : Int)), (0, (n : Int))] [] (pc I c f, RF sp rt tt z.1, z) (0, 0) = some (none, (pc I c (fl (I c) n v), RF sp rt tt z.1, z))) n (I c) ?_ ?_
  · rw [pc_self] at h; exact h
  · intro i f hi hf hr
    refine (T_344_5 ..).trans ?_
    refine ci_t (by omega) ?_
    refine ite_t l1 ?_
    refine ci_t (by omega) ?_
    rw [w32_of (by omega) (by omega), up2_pc]
    exact hr
  · have e : ∀ i, itr (fun (i : Nat) (f : Nat → Int) => ud f i v) i (I c) = fl (I c) i v := by
      intro i
      induction i with
      | zero => exact fl_0.symm
      | succ i ih => show ud (itr _ i (I c)) i v = _; rw [ih, fl_s]
    rw [e]
    refine (T_344_5 ..).trans ?_
    exact ci_f (by omega) rfl
end W0
def cnt (A B : Nat → Int) (a : Int) : Nat → Nat
  | 0 => 0
  | r + 1 => cnt A B a r + (if A r = a ∨ B r = a then 1 else 0)
theorem cnt_le {A B : Nat → Int} {a : Int} : ∀ {r k : Nat}, cnt A B a r ≤ cnt A B a (r + k)
  | r, 0 => Nat.le_refl _
  | r, k + 1 => by
    show cnt A B a r ≤ cnt A B a (r + k) + _
    have := cnt_le (A := A) (B := B) (a := a) (r := r) (k := k)
    omega
theorem cnt_mono {A B : Nat → Int} {a : Int} {r q : Nat} (h : r ≤ q) : cnt A B a r ≤ cnt A B a q := by
  have := cnt_le (A := A) (B := B) (a := a) (r := r) (k := q - r)
  rw [show r + (q - r) = q by omega] at this
  exact this
/-- how the class keeps the ends: E where each end lies, L all ends by places, F where those of a place begin -/
def CN (A B : Nat → Int) (P m : Nat) (E L F : Nat → Int) : Prop :=
  (NV A B m P ∧ P ≤ 80 ∧ m ≤ 150) ∧ (∀ r, r < m → E (2 * r) = A r ∧ E (2 * r + 1) = B r) ∧
  (∀ a, a < P → F (a + 1) = F a + cnt A B a m ∧ 0 ≤ F a ∧ F (a + 1) ≤ 300) ∧
  (∀ a r : Nat, a < P → r < m → (A r = a → L (F a + cnt A B a r).toNat = 2 * r) ∧ (B r = a → L (F a + cnt A B a r).toNat = 2 * r + 1))
theorem ix_all : ∀ r : Fin 150, ix32 (2 * (r.val : Int)) 1 = 2 * r.val + 1 ∧ ix32 (2 * (r.val : Int) + 1) 1 = 2 * r.val ∧ ia32 (2 * (r.val : Int)) 1 = 0 ∧ ia32 (2 * (r.val : Int) + 1) 1 = 1 := by decide +kernel
theorem ix_e {r : Nat} (h : r < 150) : ix32 (2 * (r : Int)) 1 = 2 * r + 1 := (ix_all ⟨r, h⟩).1
theorem ix_o {r : Nat} (h : r < 150) : ix32 (2 * (r : Int) + 1) 1 = 2 * r := (ix_all ⟨r, h⟩).2.1
theorem ia_e {r : Nat} (h : r < 150) : ia32 (2 * (r : Int)) 1 = 0 := (ix_all ⟨r, h⟩).2.2.1
theorem ia_o {r : Nat} (h : r < 150) : ia32 (2 * (r : Int) + 1) 1 = 1 := (ix_all ⟨r, h⟩).2.2.2
theorem dv_e {r : Nat} (h : r < 150) : w32 (Int.tdiv (2 * (r : Int)) 2) = r := by
  rw [Int.tdiv_eq_ediv_of_nonneg (by omega), w32_of (by omega) (by omega)]; omega
theorem dv_o {r : Nat} (h : r < 150) : w32 (Int.tdiv (2 * (r : Int) + 1) 2) = r := by
  rw [Int.tdiv_eq_ediv_of_nonneg (by omega), w32_of (by omega) (by omega)]; omega
theorem oe_inc {A B : Nat → Int} {m P r : Nat} {a : Int} (h : NV A B m P) (hr : r < m) : ¬ oe A B r a = -1 ↔ (A r = a ∨ B r = a) := by
  have q := h r hr
  unfold oe
  by_cases c : A r = a
  · rw [if_pos c]
    exact ⟨fun _ => Or.inl c, fun _ => by omega⟩
  · rw [if_neg c]
    by_cases c2 : B r = a
    · rw [if_pos c2]
      exact ⟨fun _ => Or.inr c2, fun _ => by omega⟩
    · rw [if_neg c2]
      exact ⟨fun w => absurd rfl w, fun w => absurd w (by rintro (w | w); exact c w; exact c2 w)⟩
theorem cnt_no {A B : Nat → Int} {m P r : Nat} {a : Int} (h : NV A B m P) (hr : r < m) (e : oe A B r a = -1) : cnt A B a (r + 1) = cnt A B a r := by
  show cnt A B a r + (if A r = a ∨ B r = a then 1 else 0) = _
  rw [if_neg (fun q => (oe_inc h hr).mpr q e)]; rfl
theorem CN_at {A B : Nat → Int} {P m : Nat} {E L F : Nat → Int} (hC : CN A B P m E L F) {h : Int} (hh : 0 ≤ h ∧ h < P) {r : Nat} (hr : r < m) (inc : ¬ oe A B r h = -1) :
    cnt A B h (r + 1) = cnt A B h r + 1 ∧ (0 ≤ F h.toNat + (cnt A B h r : Int) ∧ F h.toNat + (cnt A B h r : Int) < F (h.toNat + 1) ∧ F h.toNat + (cnt A B h r : Int) < 300) ∧
    (0 ≤ ix32 (L (F h.toNat + (cnt A B h r : Int)).toNat) 1 ∧ ix32 (L (F h.toNat + (cnt A B h r : Int)).toNat) 1 < 300) ∧
    E (ix32 (L (F h.toNat + (cnt A B h r : Int)).toNat) 1).toNat = oe A B r h ∧
    w32 (Int.tdiv (L (F h.toNat + (cnt A B h r : Int)).toNat) 2) = r ∧
    (A r = h ∧ L (F h.toNat + (cnt A B h r : Int)).toNat = 2 * r ∨ ¬ A r = h ∧ B r = h ∧ L (F h.toNat + (cnt A B h r : Int)).toNat = 2 * r + 1) := by
  obtain ⟨⟨hv, hP, hm⟩, hE, hF, hL⟩ := hC
  obtain ⟨a, rfl⟩ := Int.eq_ofNat_of_zero_le hh.1
  have ha : a < P := by omega
  have hi := (oe_inc hv hr).mp inc
  have c1 : cnt A B (a : Int) (r + 1) = cnt A B a r + 1 := by
    show cnt A B a r + (if A r = a ∨ B r = a then 1 else 0) = _
    rw [if_pos hi]
  have c2 := cnt_mono (A := A) (B := B) (a := (a : Int)) (r := r + 1) (q := m) (by omega)
  have f1 := hF a ha
  have n1 := hv r hr
  simp only [Int.toNat_natCast]
  refine ⟨c1, ⟨by omega, by omega, by omega⟩, ?_⟩
  by_cases c : A r = a
  · have l := (hL a r ha hr).1 c
    rw [l, ix_e (by omega), dv_e (by omega)]
    refine ⟨by omega, ?_, rfl, Or.inl ⟨c, rfl⟩⟩
    unfold oe
    rw [if_pos c, show (2 * (r : Int) + 1).toNat = 2 * r + 1 by omega]
    exact (hE r hr).2
  · have c3 : B r = a := by rcases hi with q | q; exact absurd q c; exact q
    have l := (hL a r ha hr).2 c3
    rw [l, ix_o (by omega), dv_o (by omega)]
    refine ⟨by omega, ?_, rfl, Or.inr ⟨c, c3, rfl⟩⟩
    unfold oe
    rw [if_neg c, if_pos c3, show (2 * (r : Int)).toNat = 2 * r by omega]
    exact (hE r hr).1
/-- the class's cells after a walk -/
def BH (I : Nat → Nat → Int) (S : ST) : Nat → Nat → Int := pc (pc (up2 I 25 8 S.2.2) 31 S.2.1) 30 S.1
theorem BH_up {I : Nat → Nat → Int} {S : ST} {b n : Nat} {v w x : Int} : up2 (up2 (up2 (BH I S) 30 b v) 31 n w) 25 8 x = BH I (ud S.1 b v, ud S.2.1 n w, x) := by
  unfold BH
  rw [up2_pc, up2_pcn (by decide), up2_pc, up2_pcn (by decide), up2_pcn (by decide), up2_up2]
theorem BH_0 {I : Nat → Nat → Int} {f : Nat → Int} {a : Int} : up2 (up2 (up2 (pc I 30 f) 30 a.toNat 0) 31 0 a) 25 8 1 = BH I (bf0 f (I 31) a) := by
  unfold BH bf0
  rw [up2_pc, up2_pcn (by decide), up2_to (c := 31), up2_pcn (by decide), up2_pcn (by decide)]
def okc (I : Nat → Nat → Int) (all : Int) : Nat → Bool := fun r => decide (¬ all = 0 ∨ ¬ I 32 r = 1)
def okr (I : Nat → Nat → Int) (all t : Int) : Nat → Bool := fun r => decide (¬ all = 0 ∨ ((r : Int) = t ∧ ¬ I 123 r = 1 ∨ ¬ (r : Int) = t ∧ ¬ I 123 r = 0))
section W1
variable {d : Nat} {I : Nat → Nat → Int} {sp rt : Nat} {tt : Nat → Nat} {z : Zs}
set_option maxHeartbeats 1000000 in
theorem S_61 {A B : Nat → Int} {P m : Nat} {a all : Int} (hC : CN A B P m (I 27) (I 28) (I 29)) (ha : 0 ≤ a ∧ a < P) : Call PG (d + 2) 61 [(2, 25), (0, a), (0, all)] (I, RF sp rt tt z.1, z) = some (none, (BH I (bfs A B (okc I all) m P (fl (I 30) 80 (-1)) (I 31) a), RF sp rt tt z.1, z)) := by
  obtain ⟨hv, hP, hm⟩ := hC.1
  have hf : ∀ b, b < P → fl (I 30) 80 (-1) b = -1 := fun b hb => fl_in (by omega)
  refine (K_61 ..).trans ?_
  refine (T_61_0 ..).trans ?_
  refine bd_t (S_344 (c := 30) (n := 80) rfl (by omega)) ?_
  refine (T_61_8 ..).trans ?_
  refine ci_t (by omega) ?_
  refine ci_t (by omega) ?_
  rw [BH_0]
  refine loop_p (bfo A B (okc I all) m) (fun (k : Nat) (S : ST) => ∀ d4, dl d4 → ∀ d5, dl d5 → ∀ d6, dl d6 → Run PG (Call PG (d + 1)) 61 29 [(2, 25), (0, a), (0, all), (0, (k : Int)), d4, d5, d6] [] (BH I S, RF sp rt tt z.1, z) (0, 0) = some (none, (BH I (bfs A B (okc I all) m P (fl (I 30) 80 (-1)) (I 31) a), RF sp rt tt z.1, z))) P _ ?_ ?_ _ dl9 _ dl9 _ dl9
  · intro k S hk hS hr d4 h4 d5 h5 d6 h6
    have hB : BI A B (okc I all) m P k S := by rw [hS]; exact BI_all hv hf ha k
    have hle := BI_le hB
    by_cases c : (k : Int) < S.2.2
    · have hrow := hB.1.2 k c
      have ebf : bfo A B (okc I all) m k S = itr (bst A B (okc I all) (S.2.1 k)) m S := if_pos c
      rw [ebf] at hr
      refine (T_61_29 (hx4 := h4) (hx5 := h5) (hx6 := h6) ..).trans ?_
      refine ci_t c ?_
      refine ci_t (by omega) ?_
      refine ci_t (by omega) ?_
      refine ci_t (show 0 ≤ S.2.1 k ∧ S.2.1 k < 81 by omega) ?_
      have hJ : ∀ r, r ≤ m → BJ A B (okc I all) m P k (S.2.1 k) r (itr (bst A B (okc I all) (S.2.1 k)) r S) := fun r hr => bst_itr hv hB c hr
      show Run PG (Call PG (d + 1)) 61 63 [(2, 25), (0, a), (0, all), (0, (k : Int)), (0, S.2.1 k), (0, I 29 (S.2.1 k).toNat), d6] [] (BH I S, RF sp rt tt z.1, z) (0, 0) = _
      generalize S.2.1 k = h at *
      have hh : 0 ≤ h ∧ h < P := hrow.1
      have e0 : I 29 h.toNat = I 29 h.toNat + ((cnt A B h 0 : Nat) : Int) := (Int.add_zero _).symm
      rw [e0]
      have e1 : w32 (h + 1) = h + 1 := w32_of (by omega) (by omega)
      have e2 : (h + 1).toNat = h.toNat + 1 := by omega
      have fh := hC.2.2.1 h.toNat (by omega)
      have eh : ((h.toNat : Nat) : Int) = h := by omega
      rw [eh] at fh
      refine loop_p (bst A B (okc I all) h) (fun (r : Nat) (Q : ST) => ∀ d6, dl d6 → Run PG (Call PG (d + 1)) 61 63 [(2, 25), (0, a), (0, all), (0, (k : Int)), (0, h), (0, I 29 h.toNat + ((cnt A B h r : Nat) : Int)), d6] [] (BH I Q, RF sp rt tt z.1, z) (0, 0) = some (none, (BH I (bfs A B (okc I all) m P (fl (I 30) 80 (-1)) (I 31) a), RF sp rt tt z.1, z))) m S ?_ ?_ _ h6
      · intro r Q hrm hQ hr6 d6 h6
        have hj := hJ r (by omega)
        rw [← hQ] at hj
        by_cases inc : oe A B r h = -1
        · have e : bst A B (okc I all) h r Q = Q := if_neg (fun q => q.1 inc)
          have hr6 := hr6 d6 h6
          rw [e, cnt_no hv hrm inc] at hr6
          exact hr6
        · obtain ⟨x0, x1, x2, x3, x4, x5⟩ := CN_at hC hh hrm inc
          have hb := oe_in hv hrm hh.1 inc
          have e3 : w32 (I 29 h.toNat + ((cnt A B h r : Nat) : Int) + 1) = I 29 h.toNat + ((cnt A B h (r + 1) : Nat) : Int) := by rw [x0, w32_of (by omega) (by omega)]; omega
          have hst := hj.1.1.2 k hj.2.1.1
          rw [hj.2.1.2] at hst
          have hn := BI_le hj.1
          refine (T_61_63 (hx6 := h6) ..).trans ?_
          rw [e1, e2]
          refine ci_t (by omega) ?_
          refine ci_t x1.2.1 ?_
          refine ci_t ⟨x1.1, x1.2.2⟩ ?_
          refine ci_t x2 ?_
          rw [show ∀ j, BH I Q 27 j = I 27 j from fun _ => rfl, show ∀ j, BH I Q 28 j = I 28 j from fun _ => rfl, x3, x4, e3]
          refine ci_t (by omega) ?_
          by_cases c2 : Q.1 (oe A B r h).toNat = -1
          · refine ci_t c2 ?_
            have nsn : Q.2.2 < P := by
              have w1 := hj.1.1.1.2
              have w2 := sm_bzle (c := fun b => ¬ ud Q.1 (oe A B r h).toNat 0 b = -1) P
              rw [sm_cnt (by omega) c2 (by omega)] at w2
              omega
            by_cases c3 : all = 0
            · refine ci_t c3 ?_
              refine ci_t ⟨x1.1, x1.2.2⟩ ?_
              refine bd_t (S_62 (by omega)) ?_
              refine (T_61_121 ..).trans ?_
              by_cases c4 : I 32 r = 1
              · refine ci_bt (fun q => q c4) ?_
                have e : bst A B (okc I all) h r Q = Q := if_neg (fun q => by have := q.2.2; unfold okc at this; simp [c3, c4] at this)
                rw [e] at hr6
                rw [e3]
                exact hr6 _ (dl0 _)
              · refine ci_bf (show ¬ I 32 r = 1 from c4) ?_
                refine ci_t (by omega) ?_
                refine ci_t (by omega) ?_
                refine ci_t (show 0 ≤ Q.2.2 ∧ Q.2.2 < 80 by omega) ?_
                have e : bst A B (okc I all) h r Q = _ := if_pos ⟨inc, c2, by unfold okc; simp [c4]⟩
                rw [e] at hr6
                rw [show BH I Q 25 8 = Q.2.2 from rfl, show BH I Q 30 h.toNat = Q.1 h.toNat from rfl, w32_of (x := Q.1 h.toNat + 1) (by omega) (by omega), w32_of (x := Q.2.2 + 1) (by omega) (by omega), BH_up, e3]
                exact hr6 _ (dl0 _)
            · refine ci_f c3 ?_
              refine ci_t (by omega) ?_
              refine ci_t (by omega) ?_
              refine ci_t (show 0 ≤ Q.2.2 ∧ Q.2.2 < 80 by omega) ?_
              have e : bst A B (okc I all) h r Q = _ := if_pos ⟨inc, c2, by unfold okc; simp [c3]⟩
              rw [e] at hr6
              rw [show BH I Q 25 8 = Q.2.2 from rfl, show BH I Q 30 h.toNat = Q.1 h.toNat from rfl, w32_of (x := Q.1 h.toNat + 1) (by omega) (by omega), w32_of (x := Q.2.2 + 1) (by omega) (by omega), BH_up]
              exact hr6 _ (dl0 _)
          · refine ci_f c2 ?_
            have e : bst A B (okc I all) h r Q = Q := if_neg (fun q => c2 q.2.1)
            rw [e] at hr6
            exact hr6 _ (dl0 _)
      · intro d6 h6
        refine (T_61_63 (hx6 := h6) ..).trans ?_
        rw [e1, e2]
        refine ci_t (by omega) ?_
        refine ci_f (show ¬ I 29 h.toNat + ((cnt A B h m : Nat) : Int) < I 29 (h.toNat + 1) by omega) ?_
        rw [w32_of (by omega) (by omega)]
        exact hr _ (dl0 _) _ (dl0 _) _ h6
    · have ebf : bfo A B (okc I all) m k S = S := if_neg c
      rw [ebf] at hr
      have r1 := hr d4 h4 d5 h5 d6 h6
      refine (T_61_29 (hx4 := h4) (hx5 := h5) (hx6 := h6) ..).trans ?_
      refine (ci_f c rfl).trans ?_
      refine Eq.trans ?_ r1
      refine Eq.symm ((T_61_29 (hx4 := h4) (hx5 := h5) (hx6 := h6) ..).trans ?_)
      exact ci_f (show ¬ ((k + 1 : Nat) : Int) < S.2.2 by omega) rfl
  · intro d4 h4 d5 h5 d6 h6
    have hB := BI_all (A := A) (B := B) (ok := okc I all) (m := m) (g := I 31) hv hf ha P
    have hle := BI_le hB
    refine (T_61_29 (hx4 := h4) (hx5 := h5) (hx6 := h6) ..).trans ?_
    exact ci_f (show ¬ (P : Int) < (itr (bfo A B (okc I all) m) P (bf0 (fl (I 30) 80 (-1)) (I 31) a)).2.2 by omega) rfl
end W1

