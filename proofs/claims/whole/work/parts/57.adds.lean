/-! the reference's ways -/
def AH (I : Nat → Nat → Int) (S : ST) : Nat → Nat → Int := pc (pc I 125 S.2.1) 129 S.1
theorem AH_up {I : Nat → Nat → Int} {S : ST} {b n : Nat} {v w x : Int} : up2 (up2 (AH I S) 129 b v) 125 n w = AH I (ud S.1 b v, ud S.2.1 n w, x) := by
  unfold AH
  rw [up2_pc, up2_pcn (by decide), up2_pc]
theorem AH_0 {I : Nat → Nat → Int} {f : Nat → Int} {a : Int} : up2 (pc I 129 f) 125 0 a = AH I (fs0 f (I 125) a) := by
  unfold AH fs0
  rw [up2_pcn (by decide), up2_to (c := 125)]
theorem FRr_AH {I J : Nat → Nat → Int} (h : FRr I J) {S : ST} : FRr I (AH J S) := FRr_pc (FRr_pc h (by omega)) (by omega)
theorem FRr_RH {I J : Nat → Nat → Int} (h : FRr I J) {S : ST} : FRr I (RH J S) := FRr_pc (FRr_pc h (by omega)) (by omega)
section G1
variable {d : Nat} {I : Nat → Nat → Int} {sp rt : Nat} {tt : Nat → Nat} {z : Zs}
theorem S_265 {r a : Int} (hr : 0 ≤ r ∧ r < 150) : Call PG (d + 1) 265 [(2, 82), (0, r), (0, a)] (I, RF sp rt tt z.1, z) = some (some (0, bz (I 119 r.toNat = a ∧ I 128 r.toNat < 1 ∨ ¬ I 119 r.toNat = a ∧ I 120 r.toNat = a ∧ -1 < I 128 r.toNat)), (I, RF sp rt tt z.1, z)) := by
  refine (K_265 ..).trans ?_
  repeat' (first | refine ci_bt (by omega) ?_ | refine ci_bf (by omega) ?_ | refine ite_b01 ?_ | refine ci_b (fun _ => ?_) (fun _ => ?_) | refine ci_t (by omega) ?_ | refine ci_f (by omega) ?_ | refine ite_t (by omega) ?_ | refine ite_f (by omega) ?_ | refine (T_265_0 ..).trans ?_ | refine ci_c (fun _ => ?_) (fun _ => ?_))
  all_goals first | exact rb1 (by omega) | exact rb0 (by omega) | exact rbc (by omega)
/-! the search of the reference -/
set_option maxHeartbeats 1000000 in
theorem S_264s {P m : Nat} {a t : Int} {R : Option Res} (hv : NV (I 119) (I 120) m P) (hP : I 82 6 = P ∧ P ≤ 80) (hm : I 82 7 = m ∧ m ≤ 150) (ha : 0 ≤ a ∧ a < P) (ht : 0 ≤ t ∧ t < P)
    (hend : ∀ (n k : Int) d5 d6, dl d5 → dl d6 → ci (0 ≤ t ∧ t < 80) (ci (AH I (FS (I 119) (I 120) (I 128) a t m P (fl (I 129) P (-1)) (I 125)) 129 t.toNat = -1) (some (some (0, 0), (AH I (FS (I 119) (I 120) (I 128) a t m P (fl (I 129) P (-1)) (I 125)), RF sp rt tt z.1, z))) (Run PG (Call PG (d + 1)) 264 164 [(2, 82), (0, a), (0, t), (0, n), (0, t), d5, d6] [] (AH I (FS (I 119) (I 120) (I 128) a t m P (fl (I 129) P (-1)) (I 125)), RF sp rt tt z.1, z) (0, 0))) none = R) :
    Call PG (d + 2) 264 [(2, 82), (0, a), (0, t)] (I, RF sp rt tt z.1, z) = R := by
  have hf : ∀ b, b < P → fl (I 129) P (-1) b = -1 := fun b hb => fl_in hb
  refine (K_264 ..).trans ?_
  refine (T_264_0 ..).trans ?_
  have h := loop_p (fun (i : Nat) (f : Nat → Int) => ud f i (-1)) (fun (i : Nat) (f : Nat → Int) => Run PG (Call PG (d + 1)) 264 2 [(2, 82), (0, a), (0, t), (0, (i : Int)), (9, 0), (9, 0), (9, 0)] [] (pc I 129 f, RF sp rt tt z.1, z) (0, 0) = R) P (I 129) ?_ ?_
  · rw [pc_self] at h; exact h
  · intro i f hi hfi hr
    refine (T_264_2 ..).trans ?_
    refine ci_t (show (i : Int) < I 82 6 by omega) ?_
    refine ci_t (by omega) ?_
    rw [ws_n (by omega), up2_pc]
    exact hr
  have e : ∀ i, itr (fun (i : Nat) (f : Nat → Int) => ud f i (-1)) i (I 129) = fl (I 129) i (-1) := by
    intro i
    induction i with
    | zero => exact fl_0.symm
    | succ i ih => show ud (itr _ i (I 129)) i (-1) = _; rw [ih, fl_s]
  rw [e]
  refine (T_264_2 ..).trans ?_
  refine ci_f (show ¬ (P : Int) < I 82 6 by omega) ?_
  refine ci_t (by omega) ?_
  rw [AH_0]
  refine loop_p (ffo (I 119) (I 120) (I 128) a t m) (fun (k : Nat) (S : ST) => ∀ d5, dl d5 → ∀ d6, dl d6 → Run PG (Call PG (d + 1)) 264 35 [(2, 82), (0, a), (0, t), (0, S.2.2), (0, (k : Int)), d5, d6] [] (AH I S, RF sp rt tt z.1, z) (0, 0) = R) P (fs0 (fl (I 129) P (-1)) (I 125) a) ?_ ?_ _ dl9 _ dl9
  · intro k S hk hS hr d5 h5 d6 h6
    have hB : FI (I 119) (I 120) (I 128) a m P S := by rw [hS]; exact FI_all hv hf ha k
    have hle := FI_le ha hB
    by_cases c : (k : Int) < S.2.2 ∧ S.1 t.toNat = -1
    · have hh := hB.2.1 k c.1
      have ebf : ffo (I 119) (I 120) (I 128) a t m k S = itr (fss (I 119) (I 120) (I 128) a (S.2.1 k)) m S := if_pos c
      rw [ebf] at hr
      refine (T_264_35 (hx5 := h5) (hx6 := h6) ..).trans ?_
      refine ci_t c.1 ?_
      refine ci_t (by omega) ?_
      refine ci_t c.2 ?_
      have hJ := FI_in (A := I 119) (B := I 120) (fw := I 128) hv ha hB c.1
      refine loop_p (fss (I 119) (I 120) (I 128) a (S.2.1 k)) (fun (r : Nat) (Q : ST) => ∀ d6, dl d6 → Run PG (Call PG (d + 1)) 264 54 [(2, 82), (0, a), (0, t), (0, Q.2.2), (0, (k : Int)), (0, (r : Int)), d6] [] (AH I Q, RF sp rt tt z.1, z) (0, 0) = R) m S ?_ ?_ _ h6
      · intro r Q hrm hQ hr6 d6 h6
        have hr150 : 0 ≤ (r : Int) ∧ (r : Int) < 150 := ⟨Int.natCast_nonneg _, by omega⟩
        have hj := hJ r (by omega)
        rw [← hQ] at hj
        have ek : AH I Q 125 (k : Int).toNat = S.2.1 k := hj.2.2
        refine (T_264_54 (hx6 := h6) ..).trans ?_
        refine ci_t (show (r : Int) < I 82 7 by omega) ?_
        refine ci_t (by omega) ?_
        rw [ek]
        have e3 : ∀ _ : Unit, w32 ((r : Int) + 1) = ((r + 1 : Nat) : Int) := fun _ => ws_n (by omega)
        generalize hhh : S.2.1 k = h at *
        have s5 := S_265 (d := d) (I := AH I Q) (sp := sp) (rt := rt) (tt := tt) (z := z) (r := (r : Int)) (a := h) hr150
        rw [show AH I Q 119 (r : Int).toNat = I 119 r from rfl, show AH I Q 120 (r : Int).toNat = I 120 r from rfl, show AH I Q 128 (r : Int).toNat = I 128 r from rfl] at s5
        refine bd_t s5 ?_
        refine (T_264_76 (hx6 := h6) ..).trans ?_
        by_cases c1 : I 119 r = h ∧ I 128 r < 1 ∨ ¬ I 119 r = h ∧ I 120 r = h ∧ -1 < I 128 r
        · refine ci_bf c1 ?_
          have inc : ¬ oe (I 119) (I 120) r h = -1 := (oe_inc hv hrm).mpr (by rcases c1 with w | w; exact Or.inl w.1; exact Or.inr w.2.1)
          have hcg : cgb (I 128) (I 119) r h = true := cgb_iff.mpr (by unfold cg; rcases c1 with w | w; exact Or.inl w; exact Or.inr ⟨w.1, w.2.2⟩)
          have hb := oe_in hv hrm hh.1 inc
          have hn := FI_le ha hj.1
          refine ci_t (by omega) ?_
          rw [ek]
          refine bd_t (S_257 (I := AH I Q) hr150) ?_
          refine (T_264_95 (hx6 := h6) ..).trans ?_
          rw [show oe (AH I Q 119) (AH I Q 120) (r : Int).toNat h = oe (I 119) (I 120) r h from rfl, e3 ()]
          by_cases c2 : oe (I 119) (I 120) r h = a
          · refine ci_t c2 ?_
            have e : fss (I 119) (I 120) (I 128) a h r Q = Q := if_neg (fun q => q.2.1 c2)
            rw [e] at hr6
            exact hr6 _ (dl0 _)
          refine ci_f c2 ?_
          refine ci_t (by omega) ?_
          by_cases c3 : Q.1 (oe (I 119) (I 120) r h).toNat = -1
          · refine ci_t c3 ?_
            have nsn : Q.2.2 < P := by
              have w1 := hj.1.1.1.2
              have w0 := hj.1.1.2.2
              have w2 := sm_bzle (c := fun b => ¬ ud (ud Q.1 a.toNat 0) (oe (I 119) (I 120) r h).toNat 0 b = -1) P
              rw [sm_cnt (by omega) (by rw [ud_ne (by omega)]; exact c3) (by omega), sm_cnt (by omega) w0 (by omega)] at w2
              omega
            refine ci_t (by omega) ?_
            refine ci_t (show 0 ≤ Q.2.2 ∧ Q.2.2 < 80 by omega) ?_
            have e : fss (I 119) (I 120) (I 128) a h r Q = _ := if_pos ⟨inc, c2, c3, hcg⟩
            rw [e] at hr6
            rw [w32_of (x := Q.2.2 + 1) (by omega) (by omega), AH_up (x := Q.2.2 + 1)]
            exact hr6 _ (dl0 _)
          · refine ci_f c3 ?_
            have e : fss (I 119) (I 120) (I 128) a h r Q = Q := if_neg (fun q => c3 q.2.2.1)
            rw [e] at hr6
            exact hr6 _ (dl0 _)
        · refine ci_bt c1 ?_
          have e : fss (I 119) (I 120) (I 128) a h r Q = Q := if_neg (fun q => by
            have u := cgb_iff.mp q.2.2.2
            unfold cg at u
            have v := (oe_inc hv hrm).mp q.1
            refine c1 ?_
            rcases u with w | w
            · exact Or.inl w
            · refine Or.inr ⟨w.1, ?_, w.2⟩
              rcases v with y | y
              · exact absurd y w.1
              · exact y)
          rw [e] at hr6
          rw [e3 ()]
          exact hr6 _ h6
      · intro d6 h6
        refine (T_264_54 (hx6 := h6) ..).trans ?_
        refine ci_f (show ¬ (m : Int) < I 82 7 by omega) ?_
        rw [ws_n (by omega)]
        exact hr _ (dl0 _) _ h6
    · have hst : ∀ q, ffo (I 119) (I 120) (I 128) a t m (k + q) S = S := fun q => if_neg (fun w => c ⟨by omega, w.2⟩)
      have hfin : S = FS (I 119) (I 120) (I 128) a t m P (fl (I 129) P (-1)) (I 125) := by
        have h2 : ∀ q, itr (ffo (I 119) (I 120) (I 128) a t m) (k + q) (fs0 (fl (I 129) P (-1)) (I 125) a) = S := by
          intro q
          induction q with
          | zero => exact hS.symm
          | succ q ih =>
            show ffo (I 119) (I 120) (I 128) a t m (k + q) (itr (ffo (I 119) (I 120) (I 128) a t m) (k + q) (fs0 (fl (I 129) P (-1)) (I 125) a)) = S
            rw [ih]; exact hst q
        have h3 := h2 (P - k)
        rw [show k + (P - k) = P by omega] at h3
        exact h3.symm
      refine (T_264_35 (hx5 := h5) (hx6 := h6) ..).trans ?_
      by_cases c1 : (k : Int) < S.2.2
      · refine ci_t c1 ?_
        refine ci_t (by omega) ?_
        refine ci_f (fun w => c ⟨c1, w⟩) ?_
        rw [hfin]
        exact hend _ 0 _ _ h5 h6
      · refine ci_f c1 ?_
        rw [hfin]
        exact hend _ 0 _ _ h5 h6
  · intro d5 h5 d6 h6
    have hB := FI_all (A := I 119) (B := I 120) (fw := I 128) (t := t) (m := m) (g := I 125) hv hf ha P
    have hle := FI_le ha hB
    refine (T_264_35 (hx5 := h5) (hx6 := h6) ..).trans ?_
    refine ci_f (show ¬ (P : Int) < (itr (ffo (I 119) (I 120) (I 128) a t m) P (fs0 (fl (I 129) P (-1)) (I 125) a)).2.2 by omega) ?_
    exact hend _ 0 _ _ h5 h6
theorem pc128 {X : Nat → Nat → Int} {fw : Nat → Int} {r : Nat} {v : Int} : up2 (pc X 128 fw) 128 r v = pc X 128 (ud fw r v) := up2_pc
theorem S_264l {P m : Nat} {a t n0 : Int} {fw0 : Nat → Int} {X : Nat → Nat → Int} {S : ST} (hv : NV (X 119) (X 120) m P) (hP : P ≤ 80) (hm : m ≤ 150) (ha : 0 ≤ a ∧ a < P) (hX : X 129 = S.1) (H : FI (X 119) (X 120) fw0 a m P S) : ∀ (n c i : Nat) (fw : Nat → Int), c + n = 80 → i ≤ n → (i : Int) < S.2.2 → (∀ r, r < m → -1 - (c : Int) ≤ fw r ∧ fw r ≤ 1 + c) → ∀ d5, dl d5 → ∀ d6, dl d6 → Run PG (Call PG (d + 1)) 264 164 [(2, 82), (0, a), (0, t), (0, n0), (0, S.2.1 i), d5, d6] [] (pc X 128 fw, RF sp rt tt z.1, z) (0, 0) = some (some (0, 1), (pc X 128 (AU (X 119) (X 120) S.1 a n (S.2.1 i) fw), RF sp rt tt z.1, z)) := by
  have c2 := H.1.2.1
  have c3 := H.2.1
  have c6 := H.2.2.2.2
  intro n
  induction n with
  | zero =>
    intro c i fw h1 h1b h2 hb d5 h5 d6 h6
    have : i = 0 := by omega
    subst this
    refine (T_264_164 (hx5 := h5) (hx6 := h6) ..).trans ?_
    exact ci_t c2 rfl
  | succ n ih =>
    intro c i fw h1 h1b h2 hb d5 h5 d6 h6
    have hc : c ≤ 79 := by omega
    have wm : ∀ r, r < m → w32 (fw r + -1) = fw r + -1 := fun r hr => ws_m hc (hb r hr)
    have wp : ∀ r, r < m → w32 (fw r + 1) = fw r + 1 := fun r hr => ws_p hc (hb r hr)
    have hm1 : ∀ r, r < m → ∀ q, q < m → -1 - ((c + 1 : Nat) : Int) ≤ ud fw r (fw r + -1) q ∧ ud fw r (fw r + -1) q ≤ 1 + ((c + 1 : Nat) : Int) := fun r hr q hq => ws_u hb r q hr hq _ ⟨Int.le_refl _, by omega⟩
    have hp1 : ∀ r, r < m → ∀ q, q < m → -1 - ((c + 1 : Nat) : Int) ≤ ud fw r (fw r + 1) q ∧ ud fw r (fw r + 1) q ≤ 1 + ((c + 1 : Nat) : Int) := fun r hr q hq => ws_u hb r q hr hq _ ⟨by omega, Int.le_refl _⟩
    have h1' : c + 1 + n = 80 := by omega
    have hi := c3 i h2
    refine (T_264_164 (hx5 := h5) (hx6 := h6) ..).trans ?_
    by_cases g : S.2.1 i = a
    · refine ci_t g ?_
      show _ = some (some (0, 1), (pc X 128 (if S.2.1 i = a then fw else _), RF sp rt tt z.1, z))
      rw [if_pos g]
    · refine ci_f g ?_
      have i0 : 0 < i := by
        rcases Nat.eq_zero_or_pos i with q | q
        · subst q; exact absurd c2 g
        · exact q
      obtain ⟨q1, j, q2, q3, q4⟩ := c6 i i0 h2
      have hj := c3 j (by omega)
      have eAU : AU (X 119) (X 120) S.1 a (n + 1) (S.2.1 i) fw = AU (X 119) (X 120) S.1 a n (S.2.1 j) (ud fw (S.1 (S.2.1 i).toNat).toNat (fw (S.1 (S.2.1 i).toNat).toNat + dr (X 120) (S.1 (S.2.1 i).toNat).toNat (S.2.1 i))) := by
        show (if S.2.1 i = a then fw else AU (X 119) (X 120) S.1 a n _ _) = _
        rw [if_neg g, q3]
      rw [eAU]
      have e129 : pc X 128 fw 129 (S.2.1 i).toNat = S.1 (S.2.1 i).toNat := by rw [pc_ne (by decide), hX]
      rw [e129]
      generalize hr : (S.1 (S.2.1 i).toNat).toNat = r at *
      have er : S.1 (S.2.1 i).toNat = r := by omega
      rw [er]
      have hrm : r < m := by omega
      have hr150 : 0 ≤ (r : Int) ∧ (r : Int) < 150 := ⟨Int.natCast_nonneg _, by omega⟩
      have j1 : j ≤ n := by omega
      have j2 : (j : Int) < S.2.2 := by omega
      refine ci_t (by omega) ?_
      refine ci_t hr150 ?_
      refine ci_t hr150 ?_
      by_cases w : X 120 r = S.2.1 i
      · refine ci_t w ?_
        refine ci_t hr150 ?_
        have hd : dr (X 120) r (S.2.1 i) = 1 := if_pos w
        rw [show pc X 128 fw 128 r = fw r from rfl, wp r hrm, pc128]
        have s7 := S_257 (d := d) (I := pc X 128 (ud fw r (fw r + 1))) (sp := sp) (rt := rt) (tt := tt) (z := z) (r := (r : Int)) (a := S.2.1 i) hr150
        rw [show oe (pc X 128 (ud fw r (fw r + 1)) 119) (pc X 128 (ud fw r (fw r + 1)) 120) (r : Int).toNat (S.2.1 i) = oe (X 119) (X 120) r (S.2.1 i) from rfl, q3] at s7
        refine bd_t s7 ?_
        refine (T_264_214 (hx6 := h6) ..).trans ?_
        rw [hd]
        exact ih (c + 1) j _ h1' j1 j2 (hp1 r hrm) _ (dl0 _) _ h6
      · refine ci_f w ?_
        refine ci_t hr150 ?_
        have hd : dr (X 120) r (S.2.1 i) = -1 := if_neg w
        rw [show pc X 128 fw 128 r = fw r from rfl, wm r hrm, pc128]
        have s7 := S_257 (d := d) (I := pc X 128 (ud fw r (fw r + -1))) (sp := sp) (rt := rt) (tt := tt) (z := z) (r := (r : Int)) (a := S.2.1 i) hr150
        rw [show oe (pc X 128 (ud fw r (fw r + -1)) 119) (pc X 128 (ud fw r (fw r + -1)) 120) (r : Int).toNat (S.2.1 i) = oe (X 119) (X 120) r (S.2.1 i) from rfl, q3] at s7
        refine bd_t s7 ?_
        refine (T_264_214 (hx6 := h6) ..).trans ?_
        rw [hd]
        exact ih (c + 1) j _ h1' j1 j2 (hm1 r hrm) _ (dl0 _) _ h6
end G1

