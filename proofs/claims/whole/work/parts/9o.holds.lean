/-! counts, holds -/
/-- the clause's condition says f, in both codes -/
def WIT (I : Nat → Nat → Int) (L i j : Nat) (f : FM) : Prop := ∃ a b a' b' : Nat, (I (tc i + 7) j = (a : Int) ∧ I (tc i + 8) j = (b : Int) ∧ b ≤ 160 ∧ Cd (fun k => L.testBit k = true) (I (tc i + 9)) a b 14 f) ∧ (I 104 (12 * i + j) = (a' : Int) ∧ I 105 (12 * i + j) = (b' : Int) ∧ b' ≤ 160 ∧ Cr (fun x => I 106 (160 * i + x)) (fun x => I 107 (160 * i + x)) a' b' f) ∧ BoolF f
/-- what the clause comes to -/
noncomputable def cval (I : Nat → Nat → Int) (L i j : Nat) (e : FE) : Int := @dite Int (∃ f, WIT I L i j f) (Classical.propDecidable _) (fun h => rs3 (h.choose e)) (fun _ => 1)
theorem CLf_W {I : Nat → Nat → Int} {L i j : Nat} (h : CLf I L i j) (hc : isC (I 99 (12 * i + j))) : ∃ f, WIT I L i j f ∧ ∀ e, cval I L i j e = rs3 (f e) := by
  obtain ⟨n, bf, bt, a, b, a', b', f, _, _, h3, h4, h5⟩ := h.2.2.2.2.1 hc
  have hw : ∃ f, WIT I L i j f := ⟨f, a, b, a', b', h3, h4, h5⟩
  refine ⟨hw.choose, hw.choose_spec, fun e => ?_⟩
  unfold cval
  exact dif_pos hw
/-- the value that both find -/
noncomputable def cv (I : Nat → Nat → Int) (L i j : Nat) (e : FE) : Int := @ite Int (isC (I 99 (12 * i + j))) (Classical.propDecidable _) (cval I L i j e) 1
/-- what laws' calls may change -/
def FZ (I J : Nat → Nat → Int) : Prop := ∀ a j : Nat, ¬ (a = 10 ∨ a = 22 ∨ a = 23 ∨ a = 24 ∨ (a = 9 ∧ j = 8) ∨ a = 30 ∨ a = 31 ∨ a = 35 ∨ a = 36 ∨ a = 43 ∨ (a = 25 ∧ j = 8) ∨ a = 37 ∨ a = 42 ∨ a = 44 ∨ (108 ≤ a ∧ a ≤ 113) ∨ (124 ≤ a ∧ a ≤ 129) ∨ (a = 82 ∧ (j = 56 ∨ j = 61)) ∨ (j = 13 ∧ (a = 12 ∨ (163 ≤ a ∧ (a - 163) % 10 = 0)))) → J a j = I a j
theorem FZ_r {I : Nat → Nat → Int} : FZ I I := fun _ _ _ => rfl
theorem FZ_t {I J K : Nat → Nat → Int} (h : FZ I J) (h2 : FZ J K) : FZ I K := fun a j q => (h2 a j q).trans (h a j q)
theorem FZ_ok {I J : Nat → Nat → Int} {sp : Nat} {tt : Nat → Nat} {n : Nat} (hh : InvS I ∧ GN0 I ∧ GK I) (hx : GX I sp tt n) (hF : FZ I J) (hk : GK J) : (InvS J ∧ GN0 J ∧ GK J) ∧ GX J sp tt n := by
  refine ⟨⟨InvS_m (mkI_eq (fun a j hm => ?_)) hh.1, GN0_m (mkI_eq (fun a j hm => ?_)) hh.2.1, hk⟩, GX_s (mkI_eq (fun a j hm => ?_)) hx⟩
  all_goals (have hm' := of_decide_eq_true hm; exact hF a j (by omega))
theorem FZ_okW {I J : Nat → Nat → Int} {sp : Nat} {tt : Nat → Nat} {n : Nat} (hh : InvW I ∧ GN0 I ∧ GK I) (hx : GX I sp tt n) (hF : FZ I J) (hk : GK J) : (InvW J ∧ GN0 J ∧ GK J) ∧ GX J sp tt n := by
  refine ⟨⟨InvW_m (mkI_eq (fun a j hm => ?_)) hh.1, GN0_m (mkI_eq (fun a j hm => ?_)) hh.2.1, hk⟩, GX_s (mkI_eq (fun a j hm => ?_)) hx⟩
  all_goals (have hm' := of_decide_eq_true hm; exact hF a j (by omega))
theorem FL_Z {I J : Nat → Nat → Int} (h : FL I J) : FZ I J := fun a j q => h a j (by omega) (by omega) (by omega) (by omega) (by omega) (by omega) (by omega) (by omega) (by omega) (by omega) (by omega)
theorem RWo_Z {I J : Nat → Nat → Int} {e : FE} (h : RWo I e J) : FZ I J := fun a j q => h.1 a j (by omega) (by omega)
theorem SCl_Z {I J : Nat → Nat → Int} {c : Nat} {S : SB} (h : SCl I c S J) : FZ I J := fun a j q => h.1 a j (fun r => by
  obtain ⟨r1, i, r2, r3⟩ := r
  have := tc_d i
  omega)
theorem SRl_Z {I J : Nat → Nat → Int} {S : SB} (h : SRl I S J) : FZ I J := fun a j q => h.1 a j (by omega)
theorem GK_Z {I J : Nat → Nat → Int} (h : ∀ a j : Nat, (25 ≤ a ∧ a ≤ 44) ∨ (114 ≤ a ∧ a ≤ 123) ∨ (a = 82 ∧ (j = 6 ∨ j = 7)) ∨ (a = 2 ∧ j = 6) → J a j = I a j) (hk : GK I) : GK J := GK_mm (mkI_eq (fun a j hm => by
  have hm' := of_decide_eq_true hm
  exact h a j (by omega))) (fun a j q => h a j (by omega)) hk
section HO0
variable {d : Nat} {I : Nat → Nat → Int} {sp rt : Nat} {tt : Nat → Nat} {z : Zs} {c L : Nat} {e : FE}
theorem C_81 (h : TV I tt z c L) {i j m : Nat} (hi : i < c) (hm : TXf I L i m) (hj : j < m) (hc : isC (I 99 (12 * i + j))) {J : Nat → Nat → Int} (hJ : ∀ a b, tc i + 2 ≤ a → a ≤ tc i + 9 → J a b = I a b) (he : ∀ k, k < 12 → L.testBit k = true → J 10 k = e k) : ∃ s : Nat → Int, Call PG (d + 2) 81 [(2, 9), (2, ((tc i : Nat) : Int)), (0, (j : Int))] (J, RF sp rt tt z.1, z) = some (some (0, cv I L i j e), (pc J 23 s, RF sp rt tt z.1, z)) := by
  have hx := tcL (sp := sp) (rt := rt) h hi
  have htc := tc_d i
  obtain ⟨f, ⟨a, b, a', b', h3, h4, h5⟩, hv⟩ := CLf_W (hm.2.2.2 j hj) hc
  have e9 : J (tc i + 9) = I (tc i + 9) := funext (fun b => hJ _ _ (by omega) (by omega))
  have hcd : Cd (fun k => L.testBit k = true) (J (tc i + 9)) a b 14 f := by rw [e9]; exact h3.2.2.2
  obtain ⟨s, r⟩ := S_81 (d := d) (I := J) (sp := sp) (rt := rt) (tt := tt) (z := z) (T := tc i) (P := fun k => L.testBit k = true) (j := j) hx (by omega) (by have := hm.1; omega) ((hJ _ _ (by omega) (by omega)).trans h3.1) ((hJ _ _ (by omega) (by omega)).trans h3.2.1) h3.2.2.1 hcd h5
  refine ⟨s, r.trans ?_⟩
  rw [Cd_ag hcd he]
  unfold cv
  rw [if_pos hc, hv e]
theorem R_248 {m i j : Nat} (hi : i < 30) (hm : TXf I L i m) (hj : j < m) {B : Nat → Nat → Int} (hF : FINDS B sp rt tt z (d + 1) e) (hB : ∀ a b, 104 ≤ a → a ≤ 107 → B a b = I a b) {J : Nat → Nat → Int} (hJ : RWo B e J) : ∃ J', Call PG (d + 3) 248 [(2, 82), (0, ((12 * i + j : Nat) : Int))] (J, RF sp rt tt z.1, z) = some (some (0, cv I L i j e), (J', RF sp rt tt z.1, z)) ∧ RWo B e J' := by
  have hj12 : j < 12 := by have := hm.1; omega
  by_cases hc : isC (I 99 (12 * i + j))
  · obtain ⟨f, ⟨a, b, a', b', h3, h4, h5⟩, hv⟩ := CLf_W (hm.2.2.2 j hj) hc
    have hcr : Cr (fun x => B 106 (160 * i + x)) (fun x => B 107 (160 * i + x)) a' b' f := by
      have e6 : (fun x => B 106 (160 * i + x)) = fun x => I 106 (160 * i + x) := funext (fun x => hB _ _ (by decide) (by decide))
      have e7 : (fun x => B 107 (160 * i + x)) = fun x => I 107 (160 * i + x) := funext (fun x => hB _ _ (by decide) (by decide))
      rw [e6, e7]
      exact h4.2.2.2
    obtain ⟨J', r, hJ'⟩ := S_248 (d := d) hF hi hj12 ((hB _ _ (by decide) (by decide)).trans h4.1) ((hB _ _ (by decide) (by decide)).trans h4.2.1) h4.2.2.1 hcr h5 hJ
    refine ⟨J', r.trans ?_, hJ'⟩
    unfold cv
    rw [if_pos hc, hv e]
  · have hn := (hm.2.2.2 j hj).2.2.2.2.2 hc
    have ee : J 104 (12 * i + j) = J 105 (12 * i + j) := by
      rw [hJ.1 104 _ (by omega) (by omega), hJ.1 105 _ (by omega) (by omega), hB 104 _ (by decide) (by decide), hB 105 _ (by decide) (by decide)]
      exact hn
    refine ⟨J, (S_248n (d := d + 2) hi hj12 ee).trans ?_, hJ⟩
    unfold cv
    rw [if_neg hc]
theorem FINDS_of {B : Nat → Nat → Int} (hB : InvW B) (hn : GN0 B) {p : Int} (hp : 0 ≤ p ∧ p < B 2 6) (h56 : B 82 56 = p) : FINDS B sp rt tt z (d + 7) (fct B p) := by
  intro J c hJ hc hl
  have mI : mkI MIw J = mkI MIw B := mkI_eq (fun a j hm => by
    have hm' := of_decide_eq_true hm
    exact hJ.1 a j (by omega) (by omega))
  have mN : mkI MN J = mkI MN B := mkI_eq (fun a j hm => by
    have hm' := of_decide_eq_true hm
    exact hJ.1 a j (by omega) (by omega))
  obtain ⟨K, k1, k2⟩ := S_252 (d := d) (I := J) (sp := sp) (rt := rt) (tt := tt) (z := z) (p := p) (InvW_m mI hB) (GN0_m mN hn) (by rw [hJ.1 2 6 (by omega) (by omega)]; exact hp) ((hJ.1 82 56 (by omega) (by omega)).trans h56) hl
  rw [fct_m mI mN] at k1
  exact ⟨K, k1, k2⟩
theorem L_247 {p : Int} : ∀ (u k : Nat) (f : Nat → Int), k + u = 128 → (∀ x, x < k → f x = 0) → ∃ g : Nat → Int, Run PG (Call PG d) 247 7 [(2, 82), (0, p), (0, (k : Int))] [] (pc I 110 f, RF sp rt tt z.1, z) (0, 0) = some (none, (pc I 110 g, RF sp rt tt z.1, z)) ∧ ∀ x, x < 128 → g x = 0 := by
  intro u
  induction u with
  | zero =>
    intro k f hk hf
    exact ⟨f, (T_247_7 ..).trans (ci_f (by omega) rfl), fun x hx => hf x (by omega)⟩
  | succ u ih =>
    intro k f hk hf
    obtain ⟨g, e, hg⟩ := ih (k + 1) (ud f k 0) (by omega) (fun x hx => by
      unfold ud
      by_cases q : x = k
      · rw [if_pos q]
      · rw [if_neg q]; exact hf x (by omega))
    refine ⟨g, Eq.trans ?_ e, hg⟩
    refine (T_247_7 ..).trans (ci_t (by omega) (ci_t (by omega) ?_))
    rw [show ((k : Int)).toNat = k by omega, up2_pc, w_n (by omega)]
/-- the second is to ask of a pit anew -/
theorem S_247 {p : Int} : ∃ J, Call PG (d + 1) 247 [(2, 82), (0, p)] (I, RF sp rt tt z.1, z) = some (none, (J, RF sp rt tt z.1, z)) ∧ RWo (up2 I 82 56 p) e J := by
  obtain ⟨g, e1, hg⟩ := L_247 (d := d) (I := up2 I 82 56 p) (sp := sp) (rt := rt) (tt := tt) (z := z) (p := p) 128 0 ((up2 I 82 56 p) 110) (by omega) (fun x hx => absurd hx (Nat.not_lt_zero x))
  rw [pc_self] at e1
  refine ⟨_, (K_247 ..).trans ((T_247_0 ..).trans e1), fun a j q1 q2 => pc_ne (by omega), fun c hc _ hq => absurd ?_ hq⟩
  rw [pc_at]
  exact hg c hc
/-- the second's background after it was asked -/
theorem ASK {p : Int} (hh : InvS I) (hn : GN0 I) : InvS (up2 I 82 56 p) ∧ GN0 (up2 I 82 56 p) ∧ fct (up2 I 82 56 p) p = fct I p := by
  have mI : mkI MI (up2 I 82 56 p) = mkI MI I := mkI_eq (fun a j hm => by
    have hm' := of_decide_eq_true hm
    rw [up2_def, if_neg (by omega)])
  have mN : mkI MN (up2 I 82 56 p) = mkI MN I := mkI_eq (fun a j hm => by
    have hm' := of_decide_eq_true hm
    rw [up2_def, if_neg (by omega)])
  have mW : mkI MIw (up2 I 82 56 p) = mkI MIw I := mkI_eq (fun a j hm => by
    have hm' := of_decide_eq_true hm
    rw [up2_def, if_neg (by omega)])
  exact ⟨InvS_m mI hh, GN0_m mN hn, fct_m mW mN⟩
theorem S_55 (h : TV I tt z c L) {i j : Int} : Call PG (d + 2) 55 [(2, 9), (0, i), (0, j)] (I, RF sp rt tt z.1, z) = some (some (0, bz ((0 ≤ i ∧ i < (c : Int)) ∧ 0 ≤ j ∧ j < I 97 i.toNat)), (I, RF sp rt tt z.1, z)) := by
  have s46 := S_46 (d := d) (I := I) (sp := sp) (rt := rt) (tt := tt) (z := z) (p := i)
  rw [h.2.1.1] at s46
  have hc := h.1
  refine (K_55 ..).trans ((T_55_0 ..).trans (bd_t s46 ?_))
  refine (T_55_5 ..).trans ?_
  by_cases c1 : 0 ≤ i ∧ i < (c : Int)
  · obtain ⟨n, rfl⟩ := Int.eq_ofNat_of_zero_le c1.1
    have hi : n < c := by omega
    obtain ⟨m, hm⟩ := h.2.2.2.2 n hi
    have r11 := rf11 (sp := sp) (rt := rt) h hi
    have l1 : (LAY (tc n)).1 = 3 := by rw [(tcL (sp := sp) (rt := rt) h hi).2.1]
    rw [bz_t c1]
    refine ci_f (by decide) ?_
    rw [show (((n : Nat) : Int)).toNat = n by omega]
    by_cases c2 : j < 0
    · rw [bz_f (by omega)]
      exact ci_t c2 rfl
    · refine ci_f c2 (ci_t (by omega) (nn_t r11 (ite_t l1 ?_)))
      have e5 : I (tc n) 5 = I 97 n := hm.2.1.1.trans hm.2.1.2.symm
      rw [e5]
      by_cases c3 : j < I 97 n
      · rw [bz_t ⟨c1, by omega, c3⟩]
        exact ci_t c3 rfl
      · rw [bz_f (by omega)]
        exact ci_f c3 rfl
  · rw [bz_f c1, bz_f (by omega)]
    exact ci_t rfl rfl
end HO0

