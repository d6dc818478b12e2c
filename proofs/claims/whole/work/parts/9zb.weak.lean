/-! what send's own cells leave as it is -/
def FZw (I J : Nat → Nat → Int) : Prop := ∀ a j : Nat, ¬ (a = 10 ∨ a = 22 ∨ a = 23 ∨ a = 24 ∨ (a = 9 ∧ j = 8) ∨ a = 30 ∨ a = 31 ∨ a = 35 ∨ a = 36 ∨ a = 43 ∨ (a = 25 ∧ j = 8) ∨ a = 37 ∨ a = 42 ∨ a = 44 ∨ (108 ≤ a ∧ a ≤ 113) ∨ (124 ≤ a ∧ a ≤ 129) ∨ (a = 82 ∧ (j = 56 ∨ j = 61)) ∨ a = 73 ∨ a = 157 ∨ a = 158 ∨ (j = 13 ∧ (a = 12 ∨ (163 ≤ a ∧ (a - 163) % 10 = 0)))) → J a j = I a j
theorem FZw_Z {I J : Nat → Nat → Int} (h : FZ I J) : FZw I J := fun a j q => h a j (by omega)
theorem FZw_r {I : Nat → Nat → Int} : FZw I I := fun _ _ _ => rfl
theorem FZw_t {I J K : Nat → Nat → Int} (h : FZw I J) (h2 : FZw J K) : FZw I K := fun a j q => (h2 a j q).trans (h a j q)
theorem FZw_ok {I J : Nat → Nat → Int} {sp : Nat} {tt : Nat → Nat} {n : Nat} (hh : InvS I ∧ GN0 I ∧ GK I) (hx : GX I sp tt n) (hF : FZw I J) (hk : GK J) : (InvS J ∧ GN0 J ∧ GK J) ∧ GX J sp tt n := by
  refine ⟨⟨InvS_m (mkI_eq (fun a j hm => ?_)) hh.1, GN0_m (mkI_eq (fun a j hm => ?_)) hh.2.1, hk⟩, GX_s (mkI_eq (fun a j hm => ?_)) hx⟩
  all_goals (have hm' := of_decide_eq_true hm; exact hF a j (by omega))
theorem FZw_okW {I J : Nat → Nat → Int} {sp : Nat} {tt : Nat → Nat} {n : Nat} (hh : InvW I ∧ GN0 I ∧ GK I) (hx : GX I sp tt n) (hF : FZw I J) (hk : GK J) : (InvW J ∧ GN0 J ∧ GK J) ∧ GX J sp tt n := by
  refine ⟨⟨InvW_m (mkI_eq (fun a j hm => ?_)) hh.1, GN0_m (mkI_eq (fun a j hm => ?_)) hh.2.1, hk⟩, GX_s (mkI_eq (fun a j hm => ?_)) hx⟩
  all_goals (have hm' := of_decide_eq_true hm; exact hF a j (by omega))
/-- what all of send may change, looks too -/
def FZs (I J : Nat → Nat → Int) : Prop := ∀ a j : Nat, ¬ (a = 10 ∨ a = 22 ∨ a = 23 ∨ a = 24 ∨ (a = 9 ∧ j = 8) ∨ a = 30 ∨ a = 31 ∨ a = 35 ∨ a = 36 ∨ a = 43 ∨ (a = 25 ∧ j = 8) ∨ a = 37 ∨ a = 42 ∨ a = 44 ∨ (108 ≤ a ∧ a ≤ 113) ∨ (124 ≤ a ∧ a ≤ 129) ∨ (a = 82 ∧ (j = 56 ∨ j = 61)) ∨ a = 73 ∨ a = 157 ∨ a = 158 ∨ (j = 13 ∧ (a = 12 ∨ (163 ≤ a ∧ (a - 163) % 10 = 0))) ∨ (a = 72 ∧ (j = 0 ∨ j = 6)) ∨ (74 ≤ a ∧ a ≤ 76) ∨ a = 90 ∨ a = 155 ∨ a = 156 ∨ (a = 82 ∧ j = 17)) → J a j = I a j
theorem FZs_w {I J : Nat → Nat → Int} (h : FZw I J) : FZs I J := fun a j q => h a j (by omega)
theorem FZs_t {I J K : Nat → Nat → Int} (h : FZs I J) (h2 : FZs J K) : FZs I K := fun a j q => (h2 a j q).trans (h a j q)
theorem FZs_ok {I J : Nat → Nat → Int} {sp : Nat} {tt : Nat → Nat} {n : Nat} (hh : InvW I ∧ GN0 I ∧ GK I) (hx : GX I sp tt n) (hF : FZs I J) (hk : GK J) : (InvW J ∧ GN0 J ∧ GK J) ∧ GX J sp tt n := by
  refine ⟨⟨InvW_m (mkI_eq (fun a j hm => ?_)) hh.1, GN0_m (mkI_eq (fun a j hm => ?_)) hh.2.1, hk⟩, GX_s (mkI_eq (fun a j hm => ?_)) hx⟩
  all_goals (have hm' := of_decide_eq_true hm; exact hF a j (by omega))
theorem FZs_rows {I J : Nat → Nat → Int} (h : FZs I J) {i : Nat} : (∀ k, 1 ≤ k → k ≤ 9 → J (tc i + k) = I (tc i + k)) ∧ (∀ a, 94 ≤ a → a ≤ 107 → J a = I a) ∧ ∀ j, ¬ j = 13 → J (tc i) j = I (tc i) j := by
  have htc := tc_d i
  refine ⟨fun k h1 h2 => funext (fun j => h _ _ (by omega)), fun a h1 h2 => funext (fun j => h _ _ (by omega)), fun j hj => h _ _ (by omega)⟩
theorem STK_w {I J : Nat → Nat → Int} (h : FZs I J) {p day : Int} : ∀ (i : Nat) (S : SB), STK J p day i S = STK I p day i S := by
  have r2 := (FZs_rows h (i := 0)).2.1
  have hj : ∀ i j S, sj J i j S = sj I i j S := fun i j S => by
    unfold sj
    rw [r2 99 (by decide) (by decide), r2 100 (by decide) (by decide), r2 101 (by decide) (by decide), r2 94 (by decide) (by decide)]
  have hs : ∀ i u j S, sjs J i u j S = sjs I i u j S := by
    intro i u
    induction u with
    | zero => exact fun _ _ => rfl
    | succ u ih =>
      intro j S
      show sjs J i u (j + 1) (sj J i j S) = sjs I i u (j + 1) (sj I i j S)
      rw [ih, hj]
  intro i
  induction i with
  | zero => exact fun _ => rfl
  | succ i ih =>
    intro S
    have hf : forP J p day i ↔ forP I p day i := by
      unfold forP
      rw [r2 94 (by decide) (by decide), r2 95 (by decide) (by decide), r2 96 (by decide) (by decide)]
    show STK J p day i _ = STK I p day i _
    rw [ih]
    by_cases q : forP I p day i
    · rw [if_pos q, if_pos (hf.2 q), hs, r2 97 (by decide) (by decide)]
    · rw [if_neg q, if_neg (fun w => q (hf.1 w))]
theorem cv_w {I J : Nat → Nat → Int} (h : FZs I J) {L i j : Nat} {e : FE} : cv J L i j e = cv I L i j e := by
  obtain ⟨r1, r2, r3⟩ := FZs_rows h (i := i)
  have hw : WIT J L i j = WIT I L i j := by
    unfold WIT
    rw [r1 7 (by decide) (by decide), r1 8 (by decide) (by decide), r1 9 (by decide) (by decide), r2 104 (by decide) (by decide), r2 105 (by decide) (by decide), r2 106 (by decide) (by decide), r2 107 (by decide) (by decide)]
  have hc : cval J L i j e = cval I L i j e := by
    unfold cval
    rw [hw]
  unfold cv
  rw [hc, r2 99 (by decide) (by decide)]
theorem bf_w {I J : Nat → Nat → Int} (h : FZs I J) {p day : Int} {S : SB} {L : Nat} {e : FE} : bf J p day S L e = bf I p day S L e := by
  have r2 := (FZs_rows h (i := 0)).2.1
  funext k
  unfold bf
  refine decide_eq_decide.2 ?_
  unfold brkP cntP forP
  rw [cv_w h, r2 94 (by decide) (by decide), r2 95 (by decide) (by decide), r2 96 (by decide) (by decide), r2 97 (by decide) (by decide), r2 99 (by decide) (by decide)]
theorem fct_w {I J : Nat → Nat → Int} (h : FZs I J) {p : Int} : fct J p = fct I p := fct_m (mkI_eq (fun a j hm => by
    have hm' := of_decide_eq_true hm
    exact h a j (by omega))) (mkI_eq (fun a j hm => by
    have hm' := of_decide_eq_true hm
    exact h a j (by omega)))
/-- the worth of pit p -/
noncomputable def wth (I : Nat → Nat → Int) (c L : Nat) (p : Int) : Int := wvv I p ((bc (bf I p (Int.tdiv (I 0 0) 1440) (STK I p (Int.tdiv (I 0 0) 1440) c (fun _ _ => false)) L (fct I p)) (12 * c) : Nat) : Int)
theorem wth_w {I J : Nat → Nat → Int} (h : FZs I J) {c L : Nat} {p : Int} : wth J c L p = wth I c L p := by
  unfold wth wvv
  rw [STK_w h, bf_w h, fct_w h, h 0 0 (by decide), h 5 _ (by omega), h 4 _ (by omega)]
section WF0
variable {d : Nat} {I : Nat → Nat → Int} {sp rt : Nat} {tt : Nat → Nat} {z : Zs}
theorem L_185 (hh : InvS I ∧ GN0 I ∧ GK I) (hx : GX I sp tt z.1) {c L : Nat} (h : TV I tt z c L) (h95 : I 9 5 = (L : Int)) (hL : L < 4096) {P : Nat} (hP : I 2 6 = (P : Int)) {x1 x2 x3 : Int} : ∀ (u x : Nat) (H : Nat → Nat → Int), x + u = P → FZw I H → GK H → (∀ k, k < x → H 73 k = wth I c L (k : Int)) → ∃ K, Run PG (Call PG 299) 185 41 [(2, 0), (0, x1), (0, x2), (0, x3), (0, (x : Int))] [] (H, RF sp rt tt z.1, z) (0, 0) = Run PG (Call PG 299) 185 41 [(2, 0), (0, x1), (0, x2), (0, x3), (0, (P : Int))] [] (K, RF sp rt tt z.1, z) (0, 0) ∧ FZw I K ∧ GK K ∧ ∀ k, k < P → K 73 k = wth I c L (k : Int) := by
  have p1 := hh.1.2.1.1
  intro u
  induction u with
  | zero =>
    intro x H hu hZ gH hk
    rw [show x = P by omega] at hk ⊢
    exact ⟨H, rfl, hZ, gH, hk⟩
  | succ u ih =>
    intro x H hu hZ gH hk
    obtain ⟨ok1, ok2⟩ := FZw_ok hh hx hZ gH
    obtain ⟨c', L', hV', h95', hL'⟩ := GX_TV ok2
    have e26 : H 2 6 = (P : Int) := (hZ 2 6 (by decide)).trans hP
    have ec : c' = c := by
      have a := hV'.2.1.1
      have b := h.2.1.1
      rw [hZ 9 1 (by decide)] at a
      omega
    have eL : L' = L := by
      rw [hZ 9 5 (by decide)] at h95'
      omega
    subst ec
    subst eL
    obtain ⟨K, e184, ⟨zK, _⟩, gK⟩ := S_184 (d := 291) (sp := sp) (rt := rt) hV' h95' hL' ok1 ok2 (p := (x : Int)) (by omega) FZ_r gH
    obtain ⟨K2, e2, r⟩ := ih (x + 1) (up2 K 73 x (wth I c' L' (x : Int))) (by omega) (FZw_t hZ (FZw_t (FZw_Z zK) (fun a j q => by rw [up2_def, if_neg (by omega)]))) (GK_Z (fun a j q => by rw [up2_def, if_neg (by omega)]) gK) (fun k hk' => by
      by_cases q : k = x
      · rw [q]; exact up2_eq
      · rw [up2_def, if_neg (fun w => q w.2), zK 73 k (by omega)]
        exact hk k (by omega))
    refine ⟨K2, Eq.trans ?_ e2, r⟩
    refine (T_185_41 ..).trans ?_
    rw [e26]
    refine ci_t (by omega) (bd_t e184 ?_)
    refine (T_185_68 ..).trans ?_
    rw [show ((x : Int)).toNat = x by omega, w_n (by omega)]
    have ew := wth_w (FZs_w hZ) (c := c') (L := L') (p := (x : Int))
    unfold wth at ew ⊢
    rw [← ew]
    exact ci_t (by omega) rfl
end WF0

