/-! what was seen: which can't be with which -/
def okT : Nat → Bool := fun _ => true
theorem okc_1 {I : Nat → Nat → Int} : okc I 1 = okT := by funext r; unfold okc okT; simp
theorem okr_1 {I : Nat → Nat → Int} {t : Int} : okr I 1 t = okT := by funext r; unfold okr okT; simp
def stw (I : Nat → Nat → Int) (a : Int) : Nat → Int := (bfs (I 119) (I 120) okT (I 25 1).toNat (I 25 0).toNat (fun _ => -1) (fun _ => 0) a).1
abbrev clp (I : Nat → Nat → Int) (i j : Nat) : Prop := I 78 i = I 78 j ∧ (stw I (I 79 i) (I 79 j).toNat = -1 ∨ ab (I 80 i - I 80 j) < stw I (I 79 i) (I 79 j).toNat * I 77 5)
def clrow (I : Nat → Nat → Int) (i n : Nat) : Int := itr (fun j b => if clp I i j then io32 b (shl32 1 (j : Int)) else b) n 0
theorem st_in {A B : Nat → Int} {ok : Nat → Bool} {m P : Nat} {f g : Nat → Int} {a : Int} (hv : NV A B m P) (hf : ∀ b, b < P → f b = -1) (ha : 0 ≤ a ∧ a < P) {b : Nat} (hb : b < P) : -1 ≤ (bfs A B ok m P f g a).1 b ∧ (bfs A B ok m P f g a).1 b ≤ P := by
  have hB := BI_all (A := A) (B := B) (ok := ok) (m := m) (g := g) hv hf ha P
  have hl := BI_le hB
  have h2 := hB.1.2
  have h3 := hB.2.1 b hb
  unfold bfs
  generalize itr (bfo A B ok m) P (bf0 f g a) = S at *
  rcases h3 with q | ⟨i, q1, q2⟩
  · rw [q]; omega
  · have q3 := h2 i q1
    rw [q2, Int.toNat_natCast] at q3
    omega
section CLA
variable {d : Nat} {I : Nat → Nat → Int} {sp rt : Nat} {tt : Nat → Nat} {z : Zs}
theorem S_200 {x : Int} {i j : Nat} (hi : i < 16) (hj : j < 16) (hx : -1 ≤ x ∧ x ≤ 80) (hp : 1 ≤ I 77 5 ∧ I 77 5 ≤ 60) (h1 : 0 ≤ I 80 i ∧ I 80 i ≤ 5000000) (h2 : 0 ≤ I 80 j ∧ I 80 j ≤ 5000000) :
    Call PG (d + 1) 200 [(2, 77), (0, x), (0, (i : Int)), (0, (j : Int))] (I, RF sp rt tt z.1, z) = some (some (0, bz (x = -1 ∨ ab (I 80 i - I 80 j) < x * I 77 5)), (I, RF sp rt tt z.1, z)) := by
  have hm : -60 ≤ x * I 77 5 ∧ x * I 77 5 ≤ 4800 := by
    constructor
    · have := Int.mul_le_mul_of_nonneg_right hx.1 (show 0 ≤ I 77 5 by omega)
      omega
    · have := Int.mul_le_mul hx.2 hp.2 (by omega) (by omega)
      omega
  refine (K_200 ..).trans ((T_200_0 ..).trans ?_)
  by_cases c : x = -1
  · exact ci_t c (eqv (bz_t (Or.inl c)).symm)
  · refine ci_f c ?_
    refine ci_t (by omega) ?_
    refine ci_t (by omega) ?_
    rw [Int.toNat_natCast, Int.toNat_natCast, ab_i (by omega) (by omega), w32_of (x := x * I 77 5) (by omega) (by omega)]
    by_cases c2 : x * I 77 5 ≤ ab (I 80 i - I 80 j)
    · exact ci_t c2 (eqv (bz_f (fun q => by rcases q with q | q <;> omega)).symm)
    · exact ci_f c2 (eqv (bz_t (Or.inr (by omega))).symm)
/-- what both rest on -/
def CLB (I X : Nat → Nat → Int) (n : Nat) : Prop :=
  (I 77 0 = n ∧ n ≤ 16 ∧ 1 ≤ I 77 5 ∧ I 77 5 ≤ 60) ∧ (∀ j : Nat, j < n → (0 ≤ I 79 j ∧ I 79 j < I 25 0) ∧ 0 ≤ I 80 j ∧ I 80 j ≤ 5000000) ∧
  (X 77 0 = n ∧ X 77 5 = I 77 5 ∧ X 78 = I 78 ∧ X 79 = I 79 ∧ X 80 = I 80) ∧ (0 ≤ I 25 0 ∧ I 25 0 ≤ 80)
theorem R_199 {X : Nat → Nat → Int} {n i : Nat} (H : CLB I X n) (hv : NV (I 119) (I 120) (I 25 1).toNat (I 25 0).toNat) (hi : i < n) (hst : ∀ b : Nat, b < (I 25 0).toNat → X 30 b = stw I (I 79 i) b) {R : Option Res}
    (hR : Run PG (Call PG (d + 3)) 199 30 [(2, 77), (2, 25), (0, (i : Int)), (0, (n : Int))] [] (up2 X 81 i (clrow I i n), RF sp rt tt z.1, z) (0, 0) = R) :
    Run PG (Call PG (d + 3)) 199 30 [(2, 77), (2, 25), (0, (i : Int)), (0, 0)] [] (up2 X 81 i 0, RF sp rt tt z.1, z) (0, 0) = R := by
  obtain ⟨⟨a1, a2, a3⟩, b, ⟨c1, c2, c3, c4, c5⟩, g⟩ := H
  have bi := b i hi
  have h := loop_p (fun (j : Nat) (b : Int) => if clp I i j then io32 b (shl32 1 (j : Int)) else b) (fun (j : Nat) (b : Int) => Run PG (Call PG (d + 3)) 199 30 [(2, 77), (2, 25), (0, (i : Int)), (0, (j : Int))] [] (up2 X 81 i b, RF sp rt tt z.1, z) (0, 0) = R) n 0 ?_ hR
  · exact h
  · intro j s hj _ ih
    have bj := b j hj
    have hi16 : 0 ≤ (i : Int) ∧ (i : Int) < 16 := by omega
    have hj16 : 0 ≤ (j : Int) ∧ (j : Int) < 16 := by omega
    have e30 := hst (I 79 j).toNat (by omega)
    have sr := st_in (A := I 119) (B := I 120) (ok := okT) (f := fun _ => -1) (g := fun _ => 0) hv (fun _ _ => rfl) (a := I 79 i) (by omega) (b := (I 79 j).toNat) (by omega)
    have sr2 : -1 ≤ stw I (I 79 i) (I 79 j).toNat ∧ stw I (I 79 i) (I 79 j).toNat ≤ 80 := by
      unfold stw; omega
    refine (T_199_30 ..).trans ?_
    refine ci_t (show (j : Int) < X 77 0 by omega) ?_
    refine ci_t hi16 ?_
    refine ci_t hj16 ?_
    rw [Int.toNat_natCast, Int.toNat_natCast, show up2 X 81 i s 78 = I 78 from c3, show up2 X 81 i s 79 = I 79 from c4, show up2 X 81 i s 30 = X 30 from rfl, e30, ws_n (by omega)]
    by_cases c : I 78 i = I 78 j
    · refine ci_t c ?_
      refine ci_t hj16 ?_
      refine ci_t (by omega) ?_
      refine bd_t (S_200 (d := d + 2) (I := up2 X 81 i s) (i := i) (j := j) (by omega) (by omega) sr2 (by show 1 ≤ X 77 5 ∧ X 77 5 ≤ 60; omega) (by show 0 ≤ X 80 i ∧ X 80 i ≤ 5000000; rw [c5]; omega) (by show 0 ≤ X 80 j ∧ X 80 j ≤ 5000000; rw [c5]; omega)) ?_
      rw [show up2 X 81 i s 80 = I 80 from c5, show up2 X 81 i s 77 5 = I 77 5 from c2]
      refine (T_199_70 ..).trans ?_
      by_cases k : clp I i j
      · rw [if_pos k] at ih
        rw [bz_t k.2]
        refine ci_f (by decide) ?_
        refine ci_t hi16 ?_
        refine ci_t hi16 ?_
        rw [Int.toNat_natCast, show up2 X 81 i s 81 i = s from up2_at.trans (if_pos rfl), up2_up2, ws_n (by omega)]
        exact ih
      · rw [if_neg k] at ih
        rw [bz_f (fun q => k ⟨c, q⟩)]
        refine ci_t rfl ?_
        rw [ws_n (by omega)]
        exact ih
    · refine ci_f c ?_
      rw [if_neg (fun q => c q.1)] at ih
      exact ih
theorem BH_o {X : Nat → Nat → Int} {S : ST} {a j : Nat} (h1 : ¬ a = 30) (h2 : ¬ a = 31) (h3 : ¬ (a = 25 ∧ j = 8)) : BH X S a j = X a j := by
  unfold BH
  rw [pc_ne h1, pc_ne h2, up2_def, if_neg h3]
theorem S_199 {n : Nat} (H : CLB I I n) (hC : CN (I 119) (I 120) (I 25 0).toNat (I 25 1).toNat (I 27) (I 28) (I 29)) :
    ∃ (J : Nat → Nat → Int) (f : Nat → Int), Call PG (d + 4) 199 [(2, 77), (2, 25)] (I, RF sp rt tt z.1, z) = some (none, (J, RF sp rt tt z.1, z)) ∧ FRc (pc I 81 f) J ∧ ∀ i, i < n → f i = clrow I i n := by
  have H0 := H
  obtain ⟨⟨a1, a2, a3⟩, b, ⟨c1, c2, c3, c4, c5⟩, g⟩ := H
  have h : ∀ k, k ≤ n → ∀ (J : Nat → Nat → Int) (f : Nat → Int) (x3 : AV), dl x3 → FRc (pc I 81 f) J → (∀ i, i < n - k → f i = clrow I i n) →
      ∃ (J' : Nat → Nat → Int) (f' : Nat → Int), Run PG (Call PG (d + 3)) 199 2 [(2, 77), (2, 25), (0, ((n - k : Nat) : Int)), x3] [] (J, RF sp rt tt z.1, z) (0, 0) = some (none, (J', RF sp rt tt z.1, z)) ∧ FRc (pc I 81 f') J' ∧ ∀ i, i < n → f' i = clrow I i n := by
    intro k
    induction k with
    | zero =>
      intro _ J f x3 h3 hF hf
      have e77 : J 77 0 = n := (hF 77 0 (by omega) (by omega) (by omega) (by omega) (by omega) (by omega)).trans a1
      exact ⟨J, f, (T_199_2 (hx3 := h3) ..).trans (ci_f (by rw [e77]; omega) rfl), hF, hf⟩
    | succ k ih =>
      intro hk J f x3 h3 hF hf
      obtain ⟨i, hi⟩ : ∃ i, i = n - (k + 1) := ⟨_, rfl⟩
      rw [← hi] at hf ⊢
      have hi2 : n - k = i + 1 := by omega
      rw [hi2] at ih
      have hin : i < n := by omega
      have e77 : J 77 = I 77 := FRc_f hF (by decide) (by decide) (by decide) (by decide) (by decide) (by decide)
      have e78 : J 78 = I 78 := FRc_f hF (by decide) (by decide) (by decide) (by decide) (by decide) (by decide)
      have e79 : J 79 = I 79 := FRc_f hF (by decide) (by decide) (by decide) (by decide) (by decide) (by decide)
      have e80 : J 80 = I 80 := FRc_f hF (by decide) (by decide) (by decide) (by decide) (by decide) (by decide)
      have e27 : J 27 = I 27 := FRc_f hF (by decide) (by decide) (by decide) (by decide) (by decide) (by decide)
      have e28 : J 28 = I 28 := FRc_f hF (by decide) (by decide) (by decide) (by decide) (by decide) (by decide)
      have e29 : J 29 = I 29 := FRc_f hF (by decide) (by decide) (by decide) (by decide) (by decide) (by decide)
      have e81 : ∀ j, J 81 j = f j := fun j => (hF 81 j (by omega) (by omega) (by omega) (by omega) (by omega) (by omega)).trans pc_at
      have bi := b i hin
      have hi16 : 0 ≤ (i : Int) ∧ (i : Int) < 16 := by omega
      have ha : 0 ≤ I 79 i ∧ I 79 i < (I 25 0).toNat := by omega
      have h61 := S_61 (d := d + 1) (I := up2 J 81 i 0) (sp := sp) (rt := rt) (tt := tt) (z := z) (A := I 119) (B := I 120) (P := (I 25 0).toNat) (m := (I 25 1).toNat) (a := I 79 i) (all := 1) (by
        show CN (I 119) (I 120) (I 25 0).toNat (I 25 1).toNat (J 27) (J 28) (J 29)
        rw [e27, e28, e29]; exact hC) ha
      rw [okc_1, show up2 J 81 i 0 30 = J 30 from rfl, show up2 J 81 i 0 31 = J 31 from rfl] at h61
      have hE := (BE_bfs (A := I 119) (B := I 120) (ok := okT) (m := (I 25 1).toNat) (P := (I 25 0).toNat) (f := fl (J 30) 80 (-1)) (g := J 31) (f' := fun _ => -1) (g' := fun _ => 0) hC.1.1 (fun b hb => fl_in (by omega)) (fun _ _ => rfl) ha (I 25 0).toNat).1
      obtain ⟨S, hS⟩ : ∃ S, S = bfs (I 119) (I 120) okT (I 25 1).toNat (I 25 0).toNat (fl (J 30) 80 (-1)) (J 31) (I 79 i) := ⟨_, rfl⟩
      have hE2 : ∀ b, b < (I 25 0).toNat → S.1 b = stw I (I 79 i) b := fun b hb => by rw [hS]; exact hE b hb
      rw [← hS] at h61
      have e0 : up2 (BH (up2 J 81 i 0) S) 81 i 0 = BH (up2 J 81 i 0) S := by
        have q := up2_id (I := BH (up2 J 81 i 0) S) (a := 81) (j := i)
        rw [show BH (up2 J 81 i 0) S 81 i = 0 from up2_at.trans (if_pos rfl)] at q
        exact q
      have hF2 : FRc (pc I 81 (ud f i (clrow I i n))) (up2 (BH (up2 J 81 i 0) S) 81 i (clrow I i n)) := fun a j h1 h2 q3 q4 q5 h6 => by
        by_cases c : a = 81
        · subst c
          rw [up2_at, pc_at]
          unfold ud
          by_cases c2 : j = i
          · rw [if_pos c2, if_pos c2]
          · rw [if_neg c2, if_neg c2, BH_o h1 h2 h6, up2_at, if_neg c2, e81]
        · rw [up2_ne c, pc_ne c, BH_o h1 h2 h6, up2_ne c, hF a j h1 h2 q3 q4 q5 h6, pc_ne c]
      obtain ⟨J', f', r, F, q⟩ := ih (by omega) (up2 (BH (up2 J 81 i 0) S) 81 i (clrow I i n)) (ud f i (clrow I i n)) (0, (n : Int)) (dl0 _) hF2 (fun q hq => by
        unfold ud
        by_cases c : q = i
        · rw [if_pos c, c]
        · rw [if_neg c]; exact hf q (by omega))
      refine ⟨J', f', ?_, F, q⟩
      refine (T_199_2 (hx3 := h3) ..).trans ?_
      refine ci_t (by rw [e77]; omega) ?_
      refine ci_t hi16 ?_
      refine ci_t hi16 ?_
      rw [Int.toNat_natCast, e79]
      refine bd_t h61 ?_
      refine (T_199_28 (hx3 := h3) ..).trans ?_
      have R := R_199 (R := some (none, (J', RF sp rt tt z.1, z))) (d := d) (I := I) (sp := sp) (rt := rt) (tt := tt) (z := z) (X := BH (up2 J 81 i 0) S) (n := n) (i := i) ⟨⟨a1, a2, a3⟩, b, ⟨by show J 77 0 = n; rw [e77, a1], by show J 77 5 = I 77 5; rw [e77], e78, e79, e80⟩, g⟩ hC.1.1 hin hE2 ((T_199_30 ..).trans (ci_f (by show ¬ (n : Int) < J 77 0; rw [e77]; omega) (by
        rw [ws_n (by omega)]
        exact r)))
      rw [e0] at R
      exact R
  obtain ⟨J, f, r, F, q⟩ := h n (Nat.le_refl n) I (I 81) (9, 0) dl9 (by rw [pc_self]; exact FRc_r) (fun i hi => by omega)
  rw [Nat.sub_self] at r
  exact ⟨J, f, (K_199 ..).trans ((T_199_0 ..).trans r), F, q⟩
theorem st_self {A B : Nat → Int} {ok : Nat → Bool} {m P : Nat} {f g : Nat → Int} {a : Int} (hv : NV A B m P) (hf : ∀ b, b < P → f b = -1) (ha : 0 ≤ a ∧ a < P) : (bfs A B ok m P f g a).1 a.toNat = 0 := by
  have h := (bfs_far (A := A) (B := B) (ok := ok) (g := g) hv hf ha 0 a ha).1 rfl
  omega
theorem clp_self {i : Nat} (hv : NV (I 119) (I 120) (I 25 1).toNat (I 25 0).toNat) (hi : 0 ≤ I 79 i ∧ I 79 i < (I 25 0).toNat) : ¬ clp I i i := by
  rintro ⟨-, h⟩
  have h0 : stw I (I 79 i) (I 79 i).toNat = 0 := st_self hv (fun _ _ => rfl) hi
  rw [h0, Int.sub_self, Int.zero_mul] at h
  rcases h with h | h
  · exact absurd h (by decide)
  · exact absurd h (by decide)
def CLD (I X : Nat → Nat → Int) (n : Nat) : Prop :=
  (I 77 0 = n ∧ n ≤ 16 ∧ 1 ≤ I 77 5 ∧ I 77 5 ≤ 60) ∧ (∀ j : Nat, j < n → (0 ≤ I 79 j ∧ I 79 j < I 25 0) ∧ 0 ≤ I 80 j ∧ I 80 j ≤ 5000000) ∧
  (X 82 18 = n ∧ X 82 20 = I 77 5 ∧ X 159 = I 78 ∧ X 160 = I 79 ∧ X 161 = I 80) ∧ (0 ≤ I 25 0 ∧ I 25 0 ≤ 80)
theorem R_336 {X : Nat → Nat → Int} {n i : Nat} (H : CLD I X n) (hv : NV (I 119) (I 120) (I 25 1).toNat (I 25 0).toNat) (hi : i < n) (hst : ∀ b : Nat, b < (I 25 0).toNat → X 124 b = stw I (I 79 i) b) {R : Option Res}
    (hR : ∀ x3, dl x3 → Run PG (Call PG (d + 3)) 336 31 [(2, 82), (0, (i : Int)), (0, (n : Int)), x3] [] (up2 X 162 i (clrow I i n), RF sp rt tt z.1, z) (0, 0) = R) :
    ∀ x3, dl x3 → Run PG (Call PG (d + 3)) 336 31 [(2, 82), (0, (i : Int)), (0, 0), x3] [] (up2 X 162 i 0, RF sp rt tt z.1, z) (0, 0) = R := by
  obtain ⟨⟨a1, a2, a3⟩, b, ⟨c1, c2, c3, c4, c5⟩, g⟩ := H
  have bi := b i hi
  have h := loop_p (fun (j : Nat) (b : Int) => if clp I i j then io32 b (shl32 1 (j : Int)) else b) (fun (j : Nat) (b : Int) => ∀ x3, dl x3 → Run PG (Call PG (d + 3)) 336 31 [(2, 82), (0, (i : Int)), (0, (j : Int)), x3] [] (up2 X 162 i b, RF sp rt tt z.1, z) (0, 0) = R) n 0 ?_ hR
  · exact h
  · intro j s hj _ ih x3 h3
    have bj := b j hj
    have hi16 : 0 ≤ (i : Int) ∧ (i : Int) < 16 := by omega
    have hj16 : 0 ≤ (j : Int) ∧ (j : Int) < 16 := by omega
    have e30 := hst (I 79 j).toNat (by omega)
    have sr := st_in (A := I 119) (B := I 120) (ok := okT) (f := fun _ => -1) (g := fun _ => 0) hv (fun _ _ => rfl) (a := I 79 i) (by omega) (b := (I 79 j).toNat) (by omega)
    have sr2 : -1 ≤ stw I (I 79 i) (I 79 j).toNat ∧ stw I (I 79 i) (I 79 j).toNat ≤ 80 := by
      unfold stw; omega
    have hm : -60 ≤ stw I (I 79 i) (I 79 j).toNat * I 77 5 ∧ stw I (I 79 i) (I 79 j).toNat * I 77 5 ≤ 4800 := by
      constructor
      · have := Int.mul_le_mul_of_nonneg_right sr2.1 (show 0 ≤ I 77 5 by omega)
        omega
      · have := Int.mul_le_mul sr2.2 a3.2 (by omega) (by omega)
        omega
    refine (T_336_31 (hx3 := h3) ..).trans ?_
    refine ci_t (show (j : Int) < X 82 18 by omega) ?_
    refine ci_t hi16 ?_
    refine ci_t hj16 ?_
    rw [Int.toNat_natCast, Int.toNat_natCast, show up2 X 162 i s 159 = I 78 from c3, show up2 X 162 i s 160 = I 79 from c4, show up2 X 162 i s 124 = X 124 from rfl, show up2 X 162 i s 161 = I 80 from c5, show up2 X 162 i s 82 20 = I 77 5 from c2, e30, ws_n (by omega)]
    by_cases c : I 78 i = I 78 j
    · refine ci_t c ?_
      by_cases cs : (i : Int) = (j : Int)
      · refine ci_t cs ?_
        have cs2 : i = j := by omega
        rw [if_neg (by rw [← cs2]; exact clp_self hv (by omega))] at ih
        exact ih x3 h3
      · refine ci_f cs ?_
        refine ci_t hj16 ?_
        refine ci_t (by omega) ?_
        by_cases c1 : stw I (I 79 i) (I 79 j).toNat = -1
        · refine ci_t c1 ?_
          refine ci_t hi16 ?_
          refine ci_t hi16 ?_
          rw [show up2 X 162 i s 162 i = s from up2_at.trans (if_pos rfl), up2_up2]
          rw [if_pos ⟨c, Or.inl c1⟩] at ih
          exact ih _ (dl0 _)
        · refine ci_f c1 ?_
          refine ci_t hi16 ?_
          refine ci_t hj16 ?_
          refine bd_t (S_271b (by omega) (by omega)) ?_
          refine (T_336_101 ..).trans ?_
          rw [w32_of (x := stw I (I 79 i) (I 79 j).toNat * I 77 5) (by omega) (by omega), ws_n (by omega)]
          by_cases c2 : stw I (I 79 i) (I 79 j).toNat * I 77 5 ≤ ab (I 80 i - I 80 j)
          · refine ci_t c2 ?_
            rw [if_neg (fun q => by
              rcases q.2 with q | q
              · exact c1 q
              · omega)] at ih
            exact ih _ (dl0 _)
          · refine ci_f c2 ?_
            refine ci_t hi16 ?_
            refine ci_t hi16 ?_
            rw [Int.toNat_natCast, show up2 X 162 i s 162 i = s from up2_at.trans (if_pos rfl), up2_up2]
            rw [if_pos ⟨c, Or.inr (by omega)⟩] at ih
            exact ih _ (dl0 _)
    · refine ci_f c ?_
      rw [if_neg (fun q => c q.1)] at ih
      exact ih x3 h3
theorem RH_o {X : Nat → Nat → Int} {S : ST} {a j : Nat} (h1 : ¬ a = 124) (h2 : ¬ a = 125) : RH X S a j = X a j := by
  unfold RH
  rw [pc_ne h1, pc_ne h2]
theorem S_336 {n : Nat} (H : CLD I I n) (hv : NV (I 119) (I 120) (I 25 1).toNat (I 25 0).toNat) (hN : I 82 6 = I 25 0 ∧ I 82 7 = I 25 1 ∧ 0 ≤ I 25 1 ∧ I 25 1 ≤ 150) :
    ∃ (J : Nat → Nat → Int) (f : Nat → Int), Call PG (d + 4) 336 [(2, 82)] (I, RF sp rt tt z.1, z) = some (none, (J, RF sp rt tt z.1, z)) ∧ FRr (pc I 162 f) J ∧ ∀ i, i < n → f i = clrow I i n := by
  have H0 := H
  obtain ⟨⟨a1, a2, a3⟩, b, ⟨c1, c2, c3, c4, c5⟩, g⟩ := H
  have h : ∀ k, k ≤ n → ∀ (J : Nat → Nat → Int) (f : Nat → Int), FRr (pc I 162 f) J → (∀ i, i < n - k → f i = clrow I i n) →
      ∃ (J' : Nat → Nat → Int) (f' : Nat → Int), (∀ x2 x3, dl x2 → dl x3 → Run PG (Call PG (d + 3)) 336 2 [(2, 82), (0, ((n - k : Nat) : Int)), x2, x3] [] (J, RF sp rt tt z.1, z) (0, 0) = some (none, (J', RF sp rt tt z.1, z))) ∧ FRr (pc I 162 f') J' ∧ ∀ i, i < n → f' i = clrow I i n := by
    intro k
    induction k with
    | zero =>
      intro _ J f hF hf
      have e77 : J 82 18 = n := (hF 82 18 (by omega)).trans c1
      exact ⟨J, f, fun x2 x3 h2 h3 => (T_336_2 (hx2 := h2) (hx3 := h3) ..).trans (ci_f (by rw [e77]; omega) rfl), hF, hf⟩
    | succ k ih =>
      intro hk J f hF hf
      obtain ⟨i, hi⟩ : ∃ i, i = n - (k + 1) := ⟨_, rfl⟩
      rw [← hi] at hf ⊢
      have hi2 : n - k = i + 1 := by omega
      rw [hi2] at ih
      have hin : i < n := by omega
      have e82 : J 82 = I 82 := FRr_f hF (by decide)
      have e159 : J 159 = I 159 := FRr_f hF (by decide)
      have e160 : J 160 = I 160 := FRr_f hF (by decide)
      have e161 : J 161 = I 161 := FRr_f hF (by decide)
      have e119 : J 119 = I 119 := FRr_f hF (by decide)
      have e120 : J 120 = I 120 := FRr_f hF (by decide)
      have e162 : ∀ j, J 162 j = f j := fun j => (hF 162 j (by omega)).trans pc_at
      have bi := b i hin
      have hi16 : 0 ≤ (i : Int) ∧ (i : Int) < 16 := by omega
      have ha : 0 ≤ I 79 i ∧ I 79 i < (I 25 0).toNat := by omega
      have h61 := S_256 (d := d + 1) (I := up2 J 162 i 0) (sp := sp) (rt := rt) (tt := tt) (z := z) (P := (I 25 0).toNat) (m := (I 25 1).toNat) (a := I 79 i) (all := 1) (t := -1) (by
        show NV (J 119) (J 120) (I 25 1).toNat (I 25 0).toNat
        rw [e119, e120]; exact hv) (by show J 82 6 = ((I 25 0).toNat : Int) ∧ (I 25 0).toNat ≤ 80; rw [e82]; omega) (by show J 82 7 = ((I 25 1).toNat : Int) ∧ (I 25 1).toNat ≤ 150; rw [e82]; omega) ha
      rw [okr_1, show up2 J 162 i 0 124 = J 124 from rfl, show up2 J 162 i 0 125 = J 125 from rfl, show up2 J 162 i 0 119 = I 119 from e119, show up2 J 162 i 0 120 = I 120 from e120] at h61
      have hE := (BE_bfs (A := I 119) (B := I 120) (ok := okT) (m := (I 25 1).toNat) (P := (I 25 0).toNat) (f := fl (J 124) (I 25 0).toNat (-1)) (g := J 125) (f' := fun _ => -1) (g' := fun _ => 0) hv (fun b hb => fl_in (by omega)) (fun _ _ => rfl) ha (I 25 0).toNat).1
      obtain ⟨S, hS⟩ : ∃ S, S = bfs (I 119) (I 120) okT (I 25 1).toNat (I 25 0).toNat (fl (J 124) (I 25 0).toNat (-1)) (J 125) (I 79 i) := ⟨_, rfl⟩
      have hE2 : ∀ b, b < (I 25 0).toNat → S.1 b = stw I (I 79 i) b := fun b hb => by rw [hS]; exact hE b hb
      rw [← hS] at h61
      have e0 : up2 (RH (up2 J 162 i 0) S) 162 i 0 = RH (up2 J 162 i 0) S := by
        have q := up2_id (I := RH (up2 J 162 i 0) S) (a := 162) (j := i)
        rw [show RH (up2 J 162 i 0) S 162 i = 0 from up2_at.trans (if_pos rfl)] at q
        exact q
      have hF2 : FRr (pc I 162 (ud f i (clrow I i n))) (up2 (RH (up2 J 162 i 0) S) 162 i (clrow I i n)) := fun a j h1 => by
        by_cases c : a = 162
        · subst c
          rw [up2_at, pc_at]
          unfold ud
          by_cases c2 : j = i
          · rw [if_pos c2, if_pos c2]
          · rw [if_neg c2, if_neg c2, RH_o (by omega) (by omega), up2_at, if_neg c2, e162]
        · rw [up2_ne c, pc_ne c, RH_o (by omega) (by omega), up2_ne c, hF a j h1, pc_ne c]
      obtain ⟨J', f', r, F, q⟩ := ih (by omega) (up2 (RH (up2 J 162 i 0) S) 162 i (clrow I i n)) (ud f i (clrow I i n)) hF2 (fun q hq => by
        unfold ud
        by_cases c : q = i
        · rw [if_pos c, c]
        · rw [if_neg c]; exact hf q (by omega))
      refine ⟨J', f', fun x2 x3 h2 h3 => ?_, F, q⟩
      refine (T_336_2 (hx2 := h2) (hx3 := h3) ..).trans ?_
      refine ci_t (by rw [e82]; omega) ?_
      refine ci_t hi16 ?_
      refine ci_t hi16 ?_
      rw [Int.toNat_natCast, e160, c4]
      refine bd_t h61 ?_
      refine (T_336_29 (hx2 := h2) (hx3 := h3) ..).trans ?_
      have R := R_336 (R := some (none, (J', RF sp rt tt z.1, z))) (d := d) (I := I) (sp := sp) (rt := rt) (tt := tt) (z := z) (X := RH (up2 J 162 i 0) S) (n := n) (i := i) ⟨⟨a1, a2, a3⟩, b, ⟨by show J 82 18 = n; rw [e82, c1], by show J 82 20 = I 77 5; rw [e82, c2], e159.trans c3, e160.trans c4, e161.trans c5⟩, g⟩ hv hin hE2 (fun y3 hy3 => (T_336_31 (hx3 := hy3) ..).trans (ci_f (by show ¬ (n : Int) < J 82 18; rw [e82]; omega) (by
        rw [ws_n (by omega)]
        exact r (0, (n : Int)) y3 (dl0 _) hy3)))
      rw [e0] at R
      exact R x3 h3
  obtain ⟨J, f, r, F, q⟩ := h n (Nat.le_refl n) I (I 162) (by rw [pc_self]; exact FRr_r) (fun i hi => by omega)
  rw [Nat.sub_self] at r
  exact ⟨J, f, (K_336 ..).trans ((T_336_0 ..).trans (r _ _ dl9 dl9)), F, q⟩
end CLA

