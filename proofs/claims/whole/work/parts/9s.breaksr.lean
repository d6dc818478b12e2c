/-! broken: the second code, and both -/
theorem cv_r {I : Nat → Nat → Int} {L i j : Nat} (h : CLf I L i j) (hc : isC (I 99 (12 * i + j))) (e : FE) : cv I L i j e = 0 ∨ cv I L i j e = 1 ∨ cv I L i j e = 2 := by
  obtain ⟨f, ⟨_, _, _, _, _, _, h5⟩, hv⟩ := CLf_W h hc
  unfold cv
  rw [if_pos hc, hv e]
  unfold rs3
  cases q : f e with
  | none => exact Or.inr (Or.inr rfl)
  | some v =>
    rcases h5 e v q with r | r
    · exact Or.inl r
    · exact Or.inr (Or.inl r)
/-- the second heap, q cells seen -/
def RLs (I : Nat → Nat → Int) (p : Int) (S : SB) (e : FE) (f : Nat → Bool) (x : Int) (J : Nat → Nat → Int) (q : Nat) : Prop :=
  ∃ B : Nat → Nat → Int, (FZ I B ∧ GK B) ∧ B 82 56 = p ∧ (∀ k, k < 360 → B 109 k = if S (k / 12) (k % 12) = true then 1 else 0) ∧ RWo B e J ∧ ∀ k, k < q → f k = true → ((bc f k : Nat) : Int) = x → B 82 61 = (k : Int)
theorem RL_Z {I : Nat → Nat → Int} {p : Int} {S : SB} {e : FE} {f : Nat → Bool} {x : Int} {J : Nat → Nat → Int} {q : Nat} (h : RLs I p S e f x J q) : (FZ I J ∧ GK J) ∧ (∀ k, k < 360 → J 109 k = if S (k / 12) (k % 12) = true then 1 else 0) ∧ ∀ k, k < q → f k = true → ((bc f k : Nat) : Int) = x → J 82 61 = (k : Int) := by
  obtain ⟨B, ⟨h1, h2⟩, h3, h4, h5, h6⟩ := h
  exact ⟨⟨FZ_t h1 (RWo_Z h5), GK_Z (fun a b q => h5.1 a b (by omega) (by omega)) h2⟩, fun k hk => (h5.1 _ _ (by omega) (by omega)).trans (h4 k hk), fun k hk hf hx => (h5.1 _ _ (by omega) (by omega)).trans (h6 k hk hf hx)⟩
theorem RL_sk {I : Nat → Nat → Int} {p : Int} {S : SB} {e : FE} {f : Nat → Bool} {x : Int} {J : Nat → Nat → Int} {q : Nat} (h : RLs I p S e f x J q) (hf : ¬ f q = true) : RLs I p S e f x J (q + 1) := by
  obtain ⟨B, h1, h3, h4, h5, h6⟩ := h
  refine ⟨B, h1, h3, h4, h5, fun k hk hfk hx => h6 k ?_ hfk hx⟩
  by_cases r : k = q
  · exact absurd (r ▸ hfk) hf
  · omega
theorem RL_ps {I : Nat → Nat → Int} {p : Int} {S : SB} {e : FE} {f : Nat → Bool} {x : Int} {J : Nat → Nat → Int} {q : Nat} (h : RLs I p S e f x J q) (hx : ¬ ((bc f q : Nat) : Int) = x) : RLs I p S e f x J (q + 1) := by
  obtain ⟨B, h1, h3, h4, h5, h6⟩ := h
  refine ⟨B, h1, h3, h4, h5, fun k hk hfk hxk => h6 k ?_ hfk hxk⟩
  by_cases r : k = q
  · exact absurd (r ▸ hxk) hx
  · omega
theorem RL_pu {I : Nat → Nat → Int} {p : Int} {S : SB} {e : FE} {f : Nat → Bool} {x : Int} {J : Nat → Nat → Int} {q : Nat} (h : RLs I p S e f x J q) (hx : ((bc f q : Nat) : Int) = x) : RLs I p S e f x (up2 J 82 61 (q : Int)) (q + 1) := by
  obtain ⟨B, ⟨h1, h2⟩, h3, h4, h5, h6⟩ := h
  refine ⟨up2 B 82 61 (q : Int), ⟨FZ_t h1 (fun a b q => by rw [up2_def, if_neg (by omega)]), GK_Z (fun a b q => by rw [up2_def, if_neg (by omega)]) h2⟩, by rw [up2_def, if_neg (by omega)]; exact h3, fun k hk => by rw [up2_def, if_neg (by omega)]; exact h4 k hk, ⟨fun a j q1 q2 => ?_, fun c hc hl hq => ?_⟩, fun k hk hfk hxk => ?_⟩
  · rw [up2_def, up2_def]
    by_cases r : a = 82 ∧ j = 61
    · rw [if_pos r, if_pos r]
    · rw [if_neg r, if_neg r]; exact h5.1 a j q1 q2
  · rw [up2_def, if_neg (by omega)] at hq
    rw [up2_def, if_neg (by omega)]
    exact h5.2 c hc hl hq
  · by_cases r : k = q
    · rw [r]; exact up2_eq
    · have := bc_mo (f := f) (m := k + 1) q (by omega)
      rw [bc_1 hfk] at this
      omega
section BS0
variable {d : Nat} {I : Nat → Nat → Int} {sp rt : Nat} {tt : Nat → Nat} {z : Zs} {c L : Nat} {S : SB}
theorem FINDS_Z (hh : InvW I ∧ GN0 I ∧ GK I) (hx : GX I sp tt z.1) {B : Nat → Nat → Int} (hZ : FZ I B) (gB : GK B) {p : Int} (hp : 0 ≤ p ∧ p < I 2 6) (h56 : B 82 56 = p) : FINDS B sp rt tt z (d + 7) (fct I p) := by
  obtain ⟨ok1, ok2⟩ := FZ_okW hh hx hZ gB
  have e26 : B 2 6 = I 2 6 := hZ 2 6 (by decide)
  have ef : fct B p = fct I p := fct_m (mkI_eq (fun a j hm => by
    have hm' := of_decide_eq_true hm
    exact hZ a j (by omega))) (mkI_eq (fun a j hm => by
    have hm' := of_decide_eq_true hm
    exact hZ a j (by omega)))
  have hF := FINDS_of (d := d) (sp := sp) (rt := rt) (tt := tt) (z := z) ok1.1 ok1.2.1 (p := p) (by rw [e26]; exact hp) h56
  rw [ef] at hF
  exact hF
theorem L_277 (h : TV I tt z c L) (hh : InvW I ∧ GN0 I ∧ GK I) (hx : GX I sp tt z.1) {p x : Int} (hp : 0 ≤ p ∧ p < I 2 6) : ∀ (u q : Nat) (J : Nat → Nat → Int) (x5 : AV), dl x5 → q + u = 12 * c → RLs I p S (fct I p) (bf I p (Int.tdiv (I 0 0) 1440) S L (fct I p)) x J q → ∃ K, Run PG (Call PG (d + 9)) 277 15 [(2, 82), (0, p), (0, x), (0, ((bc (bf I p (Int.tdiv (I 0 0) 1440) S L (fct I p)) q : Nat) : Int)), (0, (q : Int)), x5] [] (J, RF sp rt tt z.1, z) (0, 0) = some (some (0, ((bc (bf I p (Int.tdiv (I 0 0) 1440) S L (fct I p)) (12 * c) : Nat) : Int)), (K, RF sp rt tt z.1, z)) ∧ RLs I p S (fct I p) (bf I p (Int.tdiv (I 0 0) 1440) S L (fct I p)) x K (12 * c) := by
  have hc := h.1
  have t0 := hh.1.1.1
  have hx0 := hx
  intro u
  induction u with
  | zero =>
    intro q J x5 h5 hq hJ
    rw [show q = 12 * c by omega] at hJ ⊢
    have j5 : J 82 5 = (c : Int) := ((RL_Z hJ).1.1 82 5 (by decide)).trans h.2.1.2
    refine ⟨J, (T_277_15 _ _ _ _ _ _ _ _ _ _ _ h5).trans ?_, hJ⟩
    rw [j5, w32_of (x := 12 * (c : Int)) (by omega) (by omega)]
    exact ci_f (by omega) rfl
  | succ u ih =>
    intro q J x5 h5 hq hJ
    have Z := (RL_Z hJ).1.1
    have j5 : J 82 5 = (c : Int) := (Z 82 5 (by decide)).trans h.2.1.2
    have hl := bc_le (f := bf I p (Int.tdiv (I 0 0) 1440) S L (fct I p)) q
    obtain ⟨i, j, eq, hj⟩ : ∃ i j, q = 12 * i + j ∧ j < 12 := ⟨q / 12, q % 12, by omega, by omega⟩
    have hi : i < c := by omega
    obtain ⟨m, hm⟩ := h.2.2.2.2 i hi
    have m12 := hm.1
    have e97 := hm.2.1.2
    have s245 := S_245 (d := d + 5) (I := I) (sp := sp) (rt := rt) (tt := tt) (z := z) (by rw [t0.1]; exact t0.2) (p := p) (k := q) (by omega) (S := S) (J := J) (fun a b r => Z a b (by omega)) ((RL_Z hJ).2.1 q (by omega))
    rw [show q / 12 = i by omega, show q % 12 = j by omega, t0.1] at s245
    have hbf : bf I p (Int.tdiv (I 0 0) 1440) S L (fct I p) q = true ↔ brkP I p (Int.tdiv (I 0 0) 1440) S L (fct I p) i j := by
      rw [eq]
      exact bf_t hj
    have j99 : J 99 q = I 99 (12 * i + j) := by rw [eq]; exact Z _ _ (by omega)
    have k1 : Run PG (Call PG (d + 9)) 277 15 [(2, 82), (0, p), (0, x), (0, ((bc (bf I p (Int.tdiv (I 0 0) 1440) S L (fct I p)) q : Nat) : Int)), (0, (q : Int)), x5] [] (J, RF sp rt tt z.1, z) (0, 0) = Run PG (Call PG (d + 9)) 277 34 [(2, 82), (0, p), (0, x), (0, ((bc (bf I p (Int.tdiv (I 0 0) 1440) S L (fct I p)) q : Nat) : Int)), (0, (q : Int)), x5] [(0, bz (cntP I p (Int.tdiv (I 0 0) 1440) S i j))] (J, RF sp rt tt z.1, z) (0, 0) := by
      refine (T_277_15 _ _ _ _ _ _ _ _ _ _ _ h5).trans ?_
      rw [j5, w32_of (x := 12 * (c : Int)) (by omega) (by omega)]
      exact ci_t (by omega) (bd_t s245 rfl)
    have NX : ∀ (J' : Nat → Nat → Int) (x' : AV), dl x' → RLs I p S (fct I p) (bf I p (Int.tdiv (I 0 0) 1440) S L (fct I p)) x J' q → ¬ bf I p (Int.tdiv (I 0 0) 1440) S L (fct I p) q = true → ∃ K, Run PG (Call PG (d + 9)) 277 15 [(2, 82), (0, p), (0, x), (0, ((bc (bf I p (Int.tdiv (I 0 0) 1440) S L (fct I p)) q : Nat) : Int)), (0, w32 ((q : Int) + 1)), x'] [] (J', RF sp rt tt z.1, z) (0, 0) = some (some (0, ((bc (bf I p (Int.tdiv (I 0 0) 1440) S L (fct I p)) (12 * c) : Nat) : Int)), (K, RF sp rt tt z.1, z)) ∧ RLs I p S (fct I p) (bf I p (Int.tdiv (I 0 0) 1440) S L (fct I p)) x K (12 * c) := by
      intro J' x' h' hJ' hn
      obtain ⟨K, e, hK⟩ := ih (q + 1) J' x' h' (by omega) (RL_sk hJ' hn)
      rw [bc_0 hn] at e
      rw [w_n (by omega)]
      exact ⟨K, e, hK⟩
    have PU : ∀ (J' : Nat → Nat → Int) (x' : AV), dl x' → RLs I p S (fct I p) (bf I p (Int.tdiv (I 0 0) 1440) S L (fct I p)) x J' q → bf I p (Int.tdiv (I 0 0) 1440) S L (fct I p) q = true → ∃ K, (ci (((bc (bf I p (Int.tdiv (I 0 0) 1440) S L (fct I p)) q : Nat) : Int) = x) (Run PG (Call PG (d + 9)) 277 15 [(2, 82), (0, p), (0, x), (0, w32 (((bc (bf I p (Int.tdiv (I 0 0) 1440) S L (fct I p)) q : Nat) : Int) + 1)), (0, w32 ((q : Int) + 1)), x'] [] (up2 J' 82 61 (q : Int), RF sp rt tt z.1, z) (0, 0)) (Run PG (Call PG (d + 9)) 277 15 [(2, 82), (0, p), (0, x), (0, w32 (((bc (bf I p (Int.tdiv (I 0 0) 1440) S L (fct I p)) q : Nat) : Int) + 1)), (0, w32 ((q : Int) + 1)), x'] [] (J', RF sp rt tt z.1, z) (0, 0))) = some (some (0, ((bc (bf I p (Int.tdiv (I 0 0) 1440) S L (fct I p)) (12 * c) : Nat) : Int)), (K, RF sp rt tt z.1, z)) ∧ RLs I p S (fct I p) (bf I p (Int.tdiv (I 0 0) 1440) S L (fct I p)) x K (12 * c) := by
      intro J' x' h' hJ' hn
      rw [w_n (by omega), w_n (by omega), ← bc_1 hn]
      by_cases r : ((bc (bf I p (Int.tdiv (I 0 0) 1440) S L (fct I p)) q : Nat) : Int) = x
      · obtain ⟨K, e, hK⟩ := ih (q + 1) _ x' h' (by omega) (RL_pu hJ' r)
        exact ⟨K, (ci_t r rfl).trans e, hK⟩
      · obtain ⟨K, e, hK⟩ := ih (q + 1) J' x' h' (by omega) (RL_ps hJ' r)
        exact ⟨K, (ci_f r rfl).trans e, hK⟩
    have FIN : ∀ K' : Option Res, Run PG (Call PG (d + 9)) 277 34 [(2, 82), (0, p), (0, x), (0, ((bc (bf I p (Int.tdiv (I 0 0) 1440) S L (fct I p)) q : Nat) : Int)), (0, (q : Int)), x5] [(0, bz (cntP I p (Int.tdiv (I 0 0) 1440) S i j))] (J, RF sp rt tt z.1, z) (0, 0) = K' → (∃ K, K' = some (some (0, ((bc (bf I p (Int.tdiv (I 0 0) 1440) S L (fct I p)) (12 * c) : Nat) : Int)), (K, RF sp rt tt z.1, z)) ∧ RLs I p S (fct I p) (bf I p (Int.tdiv (I 0 0) 1440) S L (fct I p)) x K (12 * c)) → ∃ K, Run PG (Call PG (d + 9)) 277 15 [(2, 82), (0, p), (0, x), (0, ((bc (bf I p (Int.tdiv (I 0 0) 1440) S L (fct I p)) q : Nat) : Int)), (0, (q : Int)), x5] [] (J, RF sp rt tt z.1, z) (0, 0) = some (some (0, ((bc (bf I p (Int.tdiv (I 0 0) 1440) S L (fct I p)) (12 * c) : Nat) : Int)), (K, RF sp rt tt z.1, z)) ∧ RLs I p S (fct I p) (bf I p (Int.tdiv (I 0 0) 1440) S L (fct I p)) x K (12 * c) := fun K' e w => by
      obtain ⟨K, w1, w2⟩ := w
      exact ⟨K, k1.trans (e.trans w1), w2⟩
    have t34 := T_277_34 (Call PG (d + 9)) J sp rt tt z p x ((bc (bf I p (Int.tdiv (I 0 0) 1440) S L (fct I p)) q : Nat) : Int) (q : Int) x5 (bz (cntP I p (Int.tdiv (I 0 0) 1440) S i j)) h5
    rw [show ((q : Int)).toNat = q by omega, j99] at t34
    by_cases c1 : cntP I p (Int.tdiv (I 0 0) 1440) S i j
    · have hjm : j < m := by have := c1.2.1; omega
      have hCL := hm.2.2.2 j hjm
      by_cases c2 : isC (I 99 (12 * i + j)) ∧ ¬ I 99 (12 * i + j) = 119
      · obtain ⟨B, ⟨b1, b1'⟩, b2, b3, b4, b5⟩ := hJ
        have hF := FINDS_Z (d := d) (rt := rt) hh hx0 b1 b1' hp b2
        obtain ⟨J', e248, hJ'⟩ := R_248 (d := d + 6) (I := I) (sp := sp) (rt := rt) (i := i) (by omega) hm hjm hF (fun a b q1 q2 => b1 a b (by omega)) b4
        have hR : RLs I p S (fct I p) (bf I p (Int.tdiv (I 0 0) 1440) S L (fct I p)) x J' q := ⟨B, ⟨b1, b1'⟩, b2, b3, hJ', b5⟩
        rw [← eq] at e248
        have k2 : Run PG (Call PG (d + 9)) 277 34 [(2, 82), (0, p), (0, x), (0, ((bc (bf I p (Int.tdiv (I 0 0) 1440) S L (fct I p)) q : Nat) : Int)), (0, (q : Int)), x5] [(0, bz (cntP I p (Int.tdiv (I 0 0) 1440) S i j))] (J, RF sp rt tt z.1, z) (0, 0) = Run PG (Call PG (d + 9)) 277 70 [(2, 82), (0, p), (0, x), (0, ((bc (bf I p (Int.tdiv (I 0 0) 1440) S L (fct I p)) q : Nat) : Int)), (0, (q : Int)), x5] [(0, cv I L i j (fct I p))] (J', RF sp rt tt z.1, z) (0, 0) := by
          refine t34.trans ?_
          rw [bz_t c1]
          refine ci_f (by decide) (ci_t (by omega) ?_)
          by_cases qd : I 99 (12 * i + j) = 100
          · exact ci_t qd (bd_t e248 rfl)
          · exact ci_f qd (ci_t (by omega) (ci_t (by omega) (bd_t e248 rfl)))
        refine FIN _ k2 ?_
        have t70 := T_277_70 (Call PG (d + 9)) J' sp rt tt z p x ((bc (bf I p (Int.tdiv (I 0 0) 1440) S L (fct I p)) q : Nat) : Int) (q : Int) x5 (cv I L i j (fct I p)) h5
        rw [t70]
        have j99' : J' 99 q = I 99 (12 * i + j) := by rw [eq]; exact (RL_Z hR).1.1 _ _ (by omega)
        rcases cv_r hCL c2.1 (fct I p) with r | r | r
        · rw [r]
          rw [show ∀ A B : Option Res, ci ((0 : Int) = 2) A B = B from fun A B => ci_f (by decide) rfl, show ∀ A B : Option Res, ci ((0 : Int) = 1) A B = B from fun A B => ci_f (by decide) rfl, T_277_89, show ((q : Int)).toNat = q by omega, j99', show ∀ A B : Option Res, ci (0 ≤ (q : Int) ∧ (q : Int) < 360) A B = A from fun A B => ci_t (by omega) rfl]
          by_cases qd : I 99 (12 * i + j) = 100
          · rw [show ∀ A B : Option Res, ci (I 99 (12 * i + j) = 100) A B = A from fun A B => ci_t qd rfl, show ∀ A B : Option Res, ci ((0 : Int) = 1) A B = B from fun A B => ci_f (by decide) rfl]
            exact PU J' _ (dl0 _) hR (hbf.2 ⟨c1, Or.inl ⟨qd, by omega⟩⟩)
          · rw [show ∀ A B : Option Res, ci (I 99 (12 * i + j) = 100) A B = B from fun A B => ci_f qd rfl, show ∀ A B : Option Res, ci ((0 : Int) = 0) A B = A from fun A B => ci_t rfl rfl]
            exact NX J' _ (dl0 _) hR (fun w => (hbf.1 w).2.elim (fun v => qd v.1) (fun v => v.2 r))
        · rw [r]
          rw [show ∀ A B : Option Res, ci ((1 : Int) = 2) A B = B from fun A B => ci_f (by decide) rfl, show ∀ A B : Option Res, ci ((1 : Int) = 1) A B = A from fun A B => ci_t rfl rfl, T_277_89, show ((q : Int)).toNat = q by omega, j99', show ∀ A B : Option Res, ci (0 ≤ (q : Int) ∧ (q : Int) < 360) A B = A from fun A B => ci_t (by omega) rfl]
          by_cases qd : I 99 (12 * i + j) = 100
          · rw [show ∀ A B : Option Res, ci (I 99 (12 * i + j) = 100) A B = A from fun A B => ci_t qd rfl, show ∀ A B : Option Res, ci ((1 : Int) = 1) A B = A from fun A B => ci_t rfl rfl]
            exact NX J' _ (dl0 _) hR (fun w => (hbf.1 w).2.elim (fun v => v.2 r) (fun v => absurd (qd.symm.trans v.1) (by decide)))
          · rw [show ∀ A B : Option Res, ci (I 99 (12 * i + j) = 100) A B = B from fun A B => ci_f qd rfl, show ∀ A B : Option Res, ci ((1 : Int) = 0) A B = B from fun A B => ci_f (by decide) rfl]
            exact PU J' _ (dl0 _) hR (hbf.2 ⟨c1, Or.inr ⟨by omega, by omega⟩⟩)
        · rw [r]
          rw [show ∀ A B : Option Res, ci ((2 : Int) = 2) A B = A from fun A B => ci_t rfl rfl]
          refine PU J' _ (dl0 _) hR (hbf.2 ⟨c1, ?_⟩)
          by_cases qd : I 99 (12 * i + j) = 100
          · exact Or.inl ⟨qd, by omega⟩
          · exact Or.inr ⟨by omega, by omega⟩
      · refine FIN _ (t34.trans ?_) (NX J x5 h5 hJ (fun w => ?_))
        · rw [bz_t c1]
          refine ci_f (by decide) (ci_t (by omega) (ci_f (fun r => c2 ?_) (ci_t (by omega) (ci_f (fun r => c2 ?_) rfl))))
          · exact ⟨Or.inl r, by omega⟩
          · exact ⟨Or.inr (Or.inl r), by omega⟩
        · exact (hbf.1 w).2.elim (fun v => c2 ⟨Or.inl v.1, by omega⟩) (fun v => c2 ⟨Or.inr (Or.inl v.1), by omega⟩)
    · refine FIN _ (t34.trans ?_) (NX J x5 h5 hJ (fun w => c1 (hbf.1 w).1))
      rw [bz_f c1]
      exact ci_t rfl rfl
theorem S_277 (h : TV I tt z c L) (hh : InvW I ∧ GN0 I ∧ GK I) (hx : GX I sp tt z.1) {p x : Int} (hp : 0 ≤ p ∧ p < I 2 6) {H : Nat → Nat → Int} (hZ : FZ I H) (gH : GK H) : ∃ K, Call PG (d + 10) 277 [(2, 82), (0, p), (0, x)] (H, RF sp rt tt z.1, z) = some (some (0, ((bc (bf I p (Int.tdiv (I 0 0) 1440) (STK I p (Int.tdiv (I 0 0) 1440) c (fun _ _ => false)) L (fct I p)) (12 * c) : Nat) : Int)), (K, RF sp rt tt z.1, z)) ∧ RLs I p (STK I p (Int.tdiv (I 0 0) 1440) c (fun _ _ => false)) (fct I p) (bf I p (Int.tdiv (I 0 0) 1440) (STK I p (Int.tdiv (I 0 0) 1440) c (fun _ _ => false)) L (fct I p)) x K (12 * c) := by
  have t0 := hh.1.1.1
  have e2 : H 82 2 = I 0 0 := (hZ 82 2 (by decide)).trans t0.1
  obtain ⟨J, e242, hJ⟩ := S_242 (d := d + 5) (sp := sp) (rt := rt) (TV_Z hZ h) (by rw [e2]; exact t0.2) (p := p)
  rw [e2, STK_Z hZ] at hJ
  obtain ⟨J1, e247, hJ1⟩ := S_247 (d := d + 8) (I := J) (sp := sp) (rt := rt) (tt := tt) (z := z) (p := p) (e := fct I p)
  have hR : RLs I p (STK I p (Int.tdiv (I 0 0) 1440) c (fun _ _ => false)) (fct I p) (bf I p (Int.tdiv (I 0 0) 1440) (STK I p (Int.tdiv (I 0 0) 1440) c (fun _ _ => false)) L (fct I p)) x J1 0 := by
    refine ⟨up2 J 82 56 p, ⟨FZ_t hZ (FZ_t (SRl_Z hJ) (fun a b q => by rw [up2_def, if_neg (by omega)])), GK_Z (fun a b q => ?_) gH⟩, up2_eq, fun k hk => by rw [up2_def, if_neg (by omega)]; exact hJ.2 k hk, hJ1, fun k hk => absurd hk (Nat.not_lt_zero k)⟩
    rw [up2_def, if_neg (by omega)]
    exact hJ.1 a b (by omega)
  obtain ⟨K, e, hK⟩ := L_277 (d := d) (sp := sp) (rt := rt) h hh hx hp (12 * c) 0 J1 (9, 0) dl9 (by omega) hR
  exact ⟨K, (K_277 ..).trans ((T_277_0 ..).trans (bd_t e242 ((T_277_5 ..).trans (bd_t e247 ((T_277_10 ..).trans e))))), hK⟩
theorem o_broken (p : Int) (hh : InvS I ∧ GN0 I ∧ GK I) (hx : GX I sp tt z.1) : OpL GX 0 83 276 [(0, p)] I sp rt tt z := by
  obtain ⟨c, L, hV, h95, hL⟩ := GX_TV hx
  have p1 := hh.1.2.1.1
  have s212 := S_212 (d := 297) (I := I) (sp := sp) (rt := rt) (tt := tt) (z := z) (p := p) (by omega)
  rw [p1.1] at s212
  by_cases c3 : 0 ≤ p ∧ p < I 2 6
  · obtain ⟨K, e84, hK⟩ := S_84 (d := 291) (sp := sp) (rt := rt) hV h95 hL hh c3
    obtain ⟨J, e277, hJ⟩ := S_277 (d := 289) (sp := sp) (rt := rt) hV (IW hh) hx (x := -1) c3 hK.1.1 hK.1.2
    have k3 : K 82 3 = I 2 6 := (hK.1.1 82 3 (by decide)).trans p1.1
    obtain ⟨f1, f2⟩ := FZ_ok hh hx (RL_Z hJ).1.1 (RL_Z hJ).1.2
    refine ⟨((bc (bf I p (Int.tdiv (I 0 0) 1440) (STK I p (Int.tdiv (I 0 0) 1440) c (fun _ _ => false)) L (fct I p)) (12 * c) : Nat) : Int), K, J, ?_, ?_, f1, f2⟩
    · refine (K_83 ..).trans ((T_83_0 ..).trans (bd_t S_18 ?_))
      rw [bz_t c3]
      exact (T_83_8 ..).trans (ci_f (by decide) (bd_t e84 (T_83_16 ..)))
    · refine (K_276 ..).trans ((T_276_0 ..).trans (bd_t (S_212 (by rw [k3]; omega)) ?_))
      rw [k3, bz_t c3]
      exact (T_276_5 ..).trans (ci_f (by decide) (bd_t e277 (T_276_14 ..)))
  · refine ⟨-1, I, I, ?_, ?_, hh, hx⟩
    · refine (K_83 ..).trans ((T_83_0 ..).trans (bd_t S_18 ?_))
      rw [bz_f c3]
      exact (T_83_8 ..).trans (ci_t rfl rfl)
    · refine (K_276 ..).trans ((T_276_0 ..).trans (bd_t s212 ?_))
      rw [bz_f c3]
      exact (T_276_5 ..).trans (ci_t rfl rfl)
theorem o_brokenAt (p x y : Int) (hh : InvS I ∧ GN0 I ∧ GK I) (hx : GX I sp tt z.1) : OpL GX 0 87 278 [(0, p), (0, x), (0, y)] I sp rt tt z := by
  obtain ⟨c, L, hV, h95, hL⟩ := GX_TV hx
  have hc := hV.1
  have p1 := hh.1.2.1.1
  by_cases c3 : 0 ≤ p ∧ p < I 2 6
  · obtain ⟨K, e84, hK⟩ := S_84 (d := 291) (sp := sp) (rt := rt) hV h95 hL hh c3
    have hl := bc_le (f := bf I p (Int.tdiv (I 0 0) 1440) (STK I p (Int.tdiv (I 0 0) 1440) c (fun _ _ => false)) L (fct I p)) (12 * c)
    have ref : ∀ (H : Nat → Nat → Int), FZ I H → GK H → ∀ r : Int, ((x < 0 → r = -1) ∧ (0 ≤ x → (((bc (bf I p (Int.tdiv (I 0 0) 1440) (STK I p (Int.tdiv (I 0 0) 1440) c (fun _ _ => false)) L (fct I p)) (12 * c) : Nat) : Int) ≤ x → r = -1) ∧ ∀ k : Nat, k < 12 * c → bf I p (Int.tdiv (I 0 0) 1440) (STK I p (Int.tdiv (I 0 0) 1440) c (fun _ _ => false)) L (fct I p) k = true → ((bc (bf I p (Int.tdiv (I 0 0) 1440) (STK I p (Int.tdiv (I 0 0) 1440) c (fun _ _ => false)) L (fct I p)) k : Nat) : Int) = x → r = if y = 0 then ((k / 12 : Nat) : Int) else if y = 1 then ((k % 12 : Nat) : Int) else -1)) → ∃ J, Call PG 300 278 [(2, 82), (0, p), (0, x), (0, y)] (H, RF sp rt tt z.1, z) = some (some (0, r), (J, RF sp rt tt z.1, z)) ∧ (InvS J ∧ GN0 J ∧ GK J) ∧ GX J sp tt z.1 := by
      intro H hZ gH r hr
      have k3 : H 82 3 = I 2 6 := (hZ 82 3 (by decide)).trans p1.1
      have w : Call PG 300 278 [(2, 82), (0, p), (0, x), (0, y)] (H, RF sp rt tt z.1, z) = Run PG (Call PG 299) 278 5 [(2, 82), (0, p), (0, x), (0, y)] [(0, 1)] (H, RF sp rt tt z.1, z) (0, 0) := by
        refine (K_278 ..).trans ((T_278_0 ..).trans (bd_t (S_212 (by rw [k3]; omega)) ?_))
        rw [k3, bz_t c3]
        rfl
      by_cases q : x < 0
      · refine ⟨H, w.trans ((T_278_5 ..).trans (ci_f (by decide) (ci_t q ?_))), FZ_ok hh hx hZ gH⟩
        rw [hr.1 q]
      · obtain ⟨J, e277, hJ⟩ := S_277 (d := 289) (sp := sp) (rt := rt) hV (IW hh) hx (x := x) c3 hZ gH
        obtain ⟨⟨j1, j2⟩, j3, j4⟩ := RL_Z hJ
        refine ⟨J, w.trans ((T_278_5 ..).trans (ci_f (by decide) (ci_f q (bd_t e277 ((T_278_18 ..).trans ?_))))), FZ_ok hh hx j1 j2⟩
        obtain ⟨h1, h2⟩ := hr.2 (by omega)
        by_cases q2 : ((bc (bf I p (Int.tdiv (I 0 0) 1440) (STK I p (Int.tdiv (I 0 0) 1440) c (fun _ _ => false)) L (fct I p)) (12 * c) : Nat) : Int) ≤ x
        · rw [h1 q2]
          exact ci_t q2 rfl
        · obtain ⟨k, k1, k2, k3⟩ := bc_ex (f := bf I p (Int.tdiv (I 0 0) 1440) (STK I p (Int.tdiv (I 0 0) 1440) c (fun _ _ => false)) L (fct I p)) (x := x.toNat) (12 * c) (by omega)
          have kx : ((bc (bf I p (Int.tdiv (I 0 0) 1440) (STK I p (Int.tdiv (I 0 0) 1440) c (fun _ _ => false)) L (fct I p)) k : Nat) : Int) = x := by omega
          rw [h2 k k1 k2 kx, j4 k k1 k2 kx, td_k, tm_k, w32_of (x := ((k / 12 : Nat) : Int)) (by omega) (by omega)]
          refine ci_f q2 ?_
          by_cases y0 : y = 0
          · rw [if_pos y0]; exact ci_t y0 rfl
          · rw [if_neg y0]
            refine ci_f y0 ?_
            by_cases y1 : y = 1
            · rw [if_pos y1]; exact ci_t y1 rfl
            · rw [if_neg y1]; exact ci_f y1 rfl
    by_cases c4 : 0 ≤ y ∧ y ≤ 1
    · have w : Call PG 300 87 [(2, 0), (0, p), (0, x), (0, y)] (I, RF sp rt tt z.1, z) = Run PG (Call PG 299) 87 34 [(2, 0), (0, p), (0, x), (0, y)] [(0, bz (0 ≤ x ∧ x ≤ ((bc (bf I p (Int.tdiv (I 0 0) 1440) (STK I p (Int.tdiv (I 0 0) 1440) c (fun _ _ => false)) L (fct I p)) (12 * c) : Nat) : Int) - 1))] (K, RF sp rt tt z.1, z) (0, 0) := by
        refine (K_87 ..).trans ((T_87_0 ..).trans (bd_t S_18 ?_))
        rw [bz_t c3]
        refine (T_87_8 ..).trans (ci_f (by decide) (bd_t S_13 ?_))
        rw [bz_t c4]
        refine (T_87_17 ..).trans (ci_f (by decide) (bd_t e84 ?_))
        refine (T_87_29 ..).trans ?_
        rw [w32_of (by omega) (by omega)]
        exact bd_t S_13 rfl
      by_cases c5 : 0 ≤ x ∧ x ≤ ((bc (bf I p (Int.tdiv (I 0 0) 1440) (STK I p (Int.tdiv (I 0 0) 1440) c (fun _ _ => false)) L (fct I p)) (12 * c) : Nat) : Int) - 1
      · obtain ⟨k, k1, k2, k3⟩ := bc_ex (f := bf I p (Int.tdiv (I 0 0) 1440) (STK I p (Int.tdiv (I 0 0) 1440) c (fun _ _ => false)) L (fct I p)) (x := x.toNat) (12 * c) (by omega)
        have kx : ((bc (bf I p (Int.tdiv (I 0 0) 1440) (STK I p (Int.tdiv (I 0 0) 1440) c (fun _ _ => false)) L (fct I p)) k : Nat) : Int) = x := by omega
        have k24 : K 24 x.toNat = (k : Int) := by rw [← k3]; exact hK.2.2.2.2 k k1 k2
        have k98 : K 9 8 = ((bc (bf I p (Int.tdiv (I 0 0) 1440) (STK I p (Int.tdiv (I 0 0) 1440) c (fun _ _ => false)) L (fct I p)) (12 * c) : Nat) : Int) := hK.2.2.2.1
        have kin : ∀ k' : Nat, k' < 12 * c → bf I p (Int.tdiv (I 0 0) 1440) (STK I p (Int.tdiv (I 0 0) 1440) c (fun _ _ => false)) L (fct I p) k' = true → ((bc (bf I p (Int.tdiv (I 0 0) 1440) (STK I p (Int.tdiv (I 0 0) 1440) c (fun _ _ => false)) L (fct I p)) k' : Nat) : Int) = x → k' = k := fun k' h1 h2 h3 => by
          have v := hK.2.2.2.2 k' h1 h2
          rw [show bc (bf I p (Int.tdiv (I 0 0) 1440) (STK I p (Int.tdiv (I 0 0) 1440) c (fun _ _ => false)) L (fct I p)) k' = x.toNat by omega, k24] at v
          omega
        obtain ⟨J, e2, f1, f2⟩ := ref K hK.1.1 hK.1.2 (if y = 0 then ((k / 12 : Nat) : Int) else if y = 1 then ((k % 12 : Nat) : Int) else -1) ⟨fun q => absurd q (by omega), fun _ => ⟨fun q => absurd q (by omega), fun k' h1 h2 h3 => by rw [kin k' h1 h2 h3]⟩⟩
        refine ⟨_, K, J, w.trans ?_, e2, f1, f2⟩
        rw [bz_t c5]
        by_cases y0 : y = 0
        · rw [if_pos y0]
          refine (T_87_34 ..).trans (ci_f (by decide) (ci_t y0 ?_))
          have e88 : Call PG 299 88 [(2, 9), (0, x)] (K, RF sp rt tt z.1, z) = some (some (0, ((k / 12 : Nat) : Int)), (K, RF sp rt tt z.1, z)) := by
            refine (K_88 ..).trans ((T_88_0 ..).trans ?_)
            rw [k98, w32_of (by omega) (by omega)]
            refine bd_t S_13 ?_
            rw [bz_t c5]
            refine (T_88_11 ..).trans ?_
            rw [k24, td_k, w32_of (x := ((k / 12 : Nat) : Int)) (by omega) (by omega)]
            exact ci_f (by decide) (ci_t (by omega) rfl)
          exact bd_t e88 ((T_87_51 ..).trans (T_87_62 ..))
        · rw [if_neg y0, if_pos (by omega)]
          refine (T_87_34 ..).trans (ci_f (by decide) (ci_f y0 ?_))
          have e89 : Call PG 299 89 [(2, 9), (0, x)] (K, RF sp rt tt z.1, z) = some (some (0, ((k % 12 : Nat) : Int)), (K, RF sp rt tt z.1, z)) := by
            refine (K_89 ..).trans ((T_89_0 ..).trans ?_)
            rw [k98, w32_of (by omega) (by omega)]
            refine bd_t S_13 ?_
            rw [bz_t c5]
            refine (T_89_11 ..).trans ?_
            rw [k24, tm_k]
            exact ci_f (by decide) (ci_t (by omega) rfl)
          exact bd_t e89 (T_87_62 ..)
      · obtain ⟨J, e2, f1, f2⟩ := ref K hK.1.1 hK.1.2 (-1) ⟨fun _ => rfl, fun q => ⟨fun _ => rfl, fun k' h1 h2 h3 => by
          have v := bc_mo (f := bf I p (Int.tdiv (I 0 0) 1440) (STK I p (Int.tdiv (I 0 0) 1440) c (fun _ _ => false)) L (fct I p)) (m := k' + 1) (12 * c) (by omega)
          rw [bc_1 h2] at v
          omega⟩⟩
        refine ⟨-1, K, J, w.trans ?_, e2, f1, f2⟩
        rw [bz_f c5]
        exact (T_87_34 ..).trans (ci_t rfl rfl)
    · obtain ⟨J, e2, f1, f2⟩ := ref I FZ_r hh.2.2 (-1) ⟨fun _ => rfl, fun _ => ⟨fun _ => rfl, fun k _ _ _ => by rw [if_neg (by omega), if_neg (by omega)]⟩⟩
      refine ⟨-1, I, J, ?_, e2, f1, f2⟩
      refine (K_87 ..).trans ((T_87_0 ..).trans (bd_t S_18 ?_))
      rw [bz_t c3]
      refine (T_87_8 ..).trans (ci_f (by decide) (bd_t S_13 ?_))
      rw [bz_f c4]
      exact (T_87_17 ..).trans (ci_t rfl rfl)
  · refine ⟨-1, I, I, ?_, ?_, hh, hx⟩
    · refine (K_87 ..).trans ((T_87_0 ..).trans (bd_t S_18 ?_))
      rw [bz_f c3]
      exact (T_87_8 ..).trans (ci_t rfl rfl)
    · refine (K_278 ..).trans ((T_278_0 ..).trans (bd_t (S_212 (by omega)) ?_))
      rw [p1.1, bz_f c3]
      exact (T_278_5 ..).trans (ci_t rfl rfl)
end BS0

