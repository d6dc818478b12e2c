/-! the class's ways out -/
def FRc (I J : Nat → Nat → Int) : Prop := ∀ a j : Nat, ¬ a = 30 → ¬ a = 31 → ¬ a = 35 → ¬ a = 36 → ¬ a = 43 → ¬ (a = 25 ∧ j = 8) → J a j = I a j
def FRr (I J : Nat → Nat → Int) : Prop := ∀ a j : Nat, ¬ (124 ≤ a ∧ a ≤ 129) → J a j = I a j
theorem FRc_r {I : Nat → Nat → Int} : FRc I I := fun _ _ _ _ _ _ _ _ => rfl
theorem FRr_r {I : Nat → Nat → Int} : FRr I I := fun _ _ _ => rfl
theorem FRc_t {I J K : Nat → Nat → Int} (h : FRc I J) (h2 : FRc J K) : FRc I K := fun a j h1 q2 q3 q4 q5 q6 => (h2 a j h1 q2 q3 q4 q5 q6).trans (h a j h1 q2 q3 q4 q5 q6)
theorem FRr_t {I J K : Nat → Nat → Int} (h : FRr I J) (h2 : FRr J K) : FRr I K := fun a j h1 => (h2 a j h1).trans (h a j h1)
theorem FRc_f {I J : Nat → Nat → Int} (h : FRc I J) {a : Nat} (h1 : ¬ a = 30) (h2 : ¬ a = 31) (h3 : ¬ a = 35) (h4 : ¬ a = 36) (h5 : ¬ a = 43) (h6 : ¬ a = 25) : J a = I a := funext fun j => h a j h1 h2 h3 h4 h5 (fun q => h6 q.1)
theorem FRr_f {I J : Nat → Nat → Int} (h : FRr I J) {a : Nat} (h1 : ¬ (124 ≤ a ∧ a ≤ 129)) : J a = I a := funext fun j => h a j h1
theorem FRc_pc {I J : Nat → Nat → Int} (h : FRc I J) {c : Nat} {f : Nat → Int} (hc : c = 30 ∨ c = 31 ∨ c = 35 ∨ c = 36 ∨ c = 43) : FRc I (pc J c f) := fun a j h1 h2 h3 h4 h5 h6 => (pc_ne (by omega)).trans (h a j h1 h2 h3 h4 h5 h6)
theorem FRc_up {I J : Nat → Nat → Int} (h : FRc I J) {x : Int} : FRc I (up2 J 25 8 x) := fun a j h1 h2 h3 h4 h5 h6 => (if_neg h6).trans (h a j h1 h2 h3 h4 h5 h6)
theorem FRr_pc {I J : Nat → Nat → Int} (h : FRr I J) {c : Nat} {f : Nat → Int} (hc : 124 ≤ c ∧ c ≤ 129) : FRr I (pc J c f) := fun a j h1 => (pc_ne (by omega)).trans (h a j h1)
theorem FRc_FH {I J : Nat → Nat → Int} (h : FRc I J) {A : Nat → Int} {S : ST} : FRc I (FH J A S) := FRc_pc (FRc_pc (FRc_up h) (by omega)) (by omega)
theorem FRc_BH {I J : Nat → Nat → Int} (h : FRc I J) {S : ST} : FRc I (BH J S) := FRc_pc (FRc_pc (FRc_up h) (by omega)) (by omega)
theorem ws_c {c : Nat} (hc : c ≤ 79) : w32 ((c : Int) + 1) = ((c + 1 : Nat) : Int) := by rw [w32_of (by omega) (by omega)]; omega
theorem ws_m {c : Nat} {x : Int} (hc : c ≤ 79) (h : -1 - (c : Int) ≤ x ∧ x ≤ 1 + c) : w32 (x + -1) = x + -1 := w32_of (by omega) (by omega)
theorem ws_p {c : Nat} {x : Int} (hc : c ≤ 79) (h : -1 - (c : Int) ≤ x ∧ x ≤ 1 + c) : w32 (x + 1) = x + 1 := w32_of (by omega) (by omega)
theorem ws_u {c m : Nat} {fw : Nat → Int} (h : ∀ r, r < m → -1 - (c : Int) ≤ fw r ∧ fw r ≤ 1 + c) (r q : Nat) (hr : r < m) (hq : q < m) (v : Int) (hv : fw r - 1 ≤ v ∧ v ≤ fw r + 1) : -1 - ((c + 1 : Nat) : Int) ≤ ud fw r v q ∧ ud fw r v q ≤ 1 + ((c + 1 : Nat) : Int) := by
  have a1 := h r hr
  have a2 := h q hq
  unfold ud
  split <;> omega
section F2
variable {d : Nat} {I : Nat → Nat → Int} {sp rt : Nat} {tt : Nat → Nat} {z : Zs}
theorem pc35 {X : Nat → Nat → Int} {fw : Nat → Int} {r : Nat} {v : Int} : up2 (pc X 35 fw) 35 r v = pc X 35 (ud fw r v) := up2_pc
/-- back along the way -/
theorem S_69l {A B : Nat → Int} {P m : Nat} {a t : Int} {fw0 : Nat → Int} {X : Nat → Nat → Int} {S : ST} {G : Nat → Int} (hv : NV A B m P) (hP : P ≤ 80) (hm : m ≤ 150) (ha : 0 ≤ a ∧ a < P) (hE : ∀ r, r < m → X 27 (2 * r) = A r ∧ X 27 (2 * r + 1) = B r) (hX : X 36 = EL A G S.1) (H : FI A B fw0 a m P S) : ∀ (n c i : Nat) (fw : Nat → Int), c + n = 80 → (i : Int) < S.2.2 → (∀ r, r < m → -1 - (c : Int) ≤ fw r ∧ fw r ≤ 1 + c) → ∀ d5, dl d5 → Run PG (Call PG (d + 1)) 69 16 [(2, 25), (0, a), (0, t), (0, S.2.1 i), (0, (c : Int)), d5] [] (pc X 35 fw, RF sp rt tt z.1, z) (0, 0) = some (some (0, 1), (pc X 35 (AU A B S.1 a n (S.2.1 i) fw), RF sp rt tt z.1, z)) := by
  have c2 := H.1.2.1
  have c3 := H.2.1
  have c6 := H.2.2.2.2
  intro n
  induction n with
  | zero =>
    intro c i fw h1 h2 hb d5 h5
    refine (T_69_16 (hx5 := h5) ..).trans ?_
    exact ci_f (by omega) rfl
  | succ n ih =>
    intro c i fw h1 h2 hb d5 h5
    have hc : c ≤ 79 := by omega
    have ec := ws_c hc
    have wm : ∀ r, r < m → w32 (fw r + -1) = fw r + -1 := fun r hr => ws_m hc (hb r hr)
    have wp : ∀ r, r < m → w32 (fw r + 1) = fw r + 1 := fun r hr => ws_p hc (hb r hr)
    have hm1 : ∀ r, r < m → ∀ q, q < m → -1 - ((c + 1 : Nat) : Int) ≤ ud fw r (fw r + -1) q ∧ ud fw r (fw r + -1) q ≤ 1 + ((c + 1 : Nat) : Int) := fun r hr q hq => ws_u hb r q hr hq _ ⟨Int.le_refl _, by omega⟩
    have hp1 : ∀ r, r < m → ∀ q, q < m → -1 - ((c + 1 : Nat) : Int) ≤ ud fw r (fw r + 1) q ∧ ud fw r (fw r + 1) q ≤ 1 + ((c + 1 : Nat) : Int) := fun r hr q hq => ws_u hb r q hr hq _ ⟨by omega, Int.le_refl _⟩
    have h1' : c + 1 + n = 80 := by omega
    have hi := c3 i h2
    refine (T_69_16 (hx5 := h5) ..).trans ?_
    refine ci_t (by omega) ?_
    by_cases g : S.2.1 i = a
    · refine ci_t g ?_
      show _ = some (some (0, 1), (pc X 35 (if S.2.1 i = a then fw else _), RF sp rt tt z.1, z))
      rw [if_pos g]
    · refine ci_f g ?_
      have i0 : 0 < i := by
        rcases Nat.eq_zero_or_pos i with q | q
        · subst q; exact absurd c2 g
        · exact q
      obtain ⟨q1, j, q2, q3, q4⟩ := c6 i i0 h2
      have hj := c3 j (by omega)
      have e36 : pc X 35 fw 36 (S.2.1 i).toNat = EL A G S.1 (S.2.1 i).toNat := by rw [pc_ne (by decide), hX]
      rw [EL_at (by omega), if_neg (by omega)] at e36
      have eAU : AU A B S.1 a (n + 1) (S.2.1 i) fw = AU A B S.1 a n (S.2.1 j) (ud fw (S.1 (S.2.1 i).toNat).toNat (fw (S.1 (S.2.1 i).toNat).toNat + dr B (S.1 (S.2.1 i).toNat).toNat (S.2.1 i))) := by
        show (if S.2.1 i = a then fw else AU A B S.1 a n _ _) = _
        rw [if_neg g, q3]
      rw [eAU]
      generalize hr : (S.1 (S.2.1 i).toNat).toNat = r at *
      have er : S.1 (S.2.1 i).toNat = r := by omega
      have hrm : r < m := by omega
      have r150 : r < 150 := by omega
      have nv := hv r hrm
      have ee := hE r hrm
      have j2 : (j : Int) < S.2.2 := by omega
      refine ci_t (by omega) ?_
      rw [e36, er]
      by_cases w : A r = (((S.2.1 i).toNat : Nat) : Int)
      · rw [if_pos w, dv_o r150]
        have hd : dr B r (S.2.1 i) = -1 := if_neg (by omega)
        have eoe : oe A B r (S.2.1 i) = B r := if_pos (by omega)
        refine ci_t (by omega) ?_
        refine bd_t (S_71o r150) ?_
        refine (T_69_51 ..).trans ?_
        refine ci_t (by omega) ?_
        refine ci_t (by omega) ?_
        rw [ec, show pc X 35 fw 27 (2 * (r : Int) + 1).toNat = B r by rw [pc_ne (by decide), show (2 * (r : Int) + 1).toNat = 2 * r + 1 by omega]; exact ee.2, show pc X 35 fw 35 (r : Int).toNat = fw r from rfl, wm r hrm, pc35, ← eoe, q3, hd]
        exact ih (c + 1) j _ h1' j2 (hm1 r hrm) _ (dl0 _)
      · rw [if_neg w, dv_e r150]
        have w2 : B r = S.2.1 i := by
          unfold oe at q3
          rw [if_neg (by omega)] at q3
          by_cases u : B r = S.2.1 i
          · exact u
          · rw [if_neg u] at q3; omega
        have hd : dr B r (S.2.1 i) = 1 := if_pos w2
        have eoe : oe A B r (S.2.1 i) = A r := by unfold oe; rw [if_neg (by omega), if_pos w2]
        refine ci_t (by omega) ?_
        refine bd_t (S_71e r150) ?_
        refine (T_69_51 ..).trans ?_
        refine ci_t (by omega) ?_
        refine ci_t (by omega) ?_
        rw [ec, show pc X 35 fw 27 (2 * (r : Int)).toNat = A r by rw [pc_ne (by decide), show (2 * (r : Int)).toNat = 2 * r by omega]; exact ee.1, show pc X 35 fw 35 (r : Int).toNat = fw r from rfl, wp r hrm, pc35, ← eoe, q3, hd]
        exact ih (c + 1) j _ h1' j2 (hp1 r hrm) _ (dl0 _)
theorem S_69 {A B : Nat → Int} {P m : Nat} {a t : Int} {fw : Nat → Int} (hC : CN A B P m (I 27) (I 28) (I 29)) (ha : 0 ≤ a ∧ a < P) (ht : 0 ≤ t ∧ t < P) (hw : ∀ r, r < m → I 35 r = fw r) (hb0 : ∀ r, r < m → -1 ≤ I 35 r ∧ I 35 r ≤ 1) : ∃ J, Call PG (d + 3) 69 [(2, 25), (0, a), (0, t)] (I, RF sp rt tt z.1, z) = some (some (0, if (fnd A B fw a t m P).1 t.toNat = -1 then 0 else 1), (J, RF sp rt tt z.1, z)) ∧ FRc I J ∧ (¬ (fnd A B fw a t m P).1 t.toNat = -1 → (∀ r, r < m → J 35 r = AU A B (fnd A B fw a t m P).1 a 80 t fw r) ∧ ∀ r, r < m → -1 ≤ J 35 r ∧ J 35 r ≤ 1) := by
  obtain ⟨hv, hP, hm⟩ := hC.1
  have hE := FS_cg (f := fun _ => -1) (f' := fun _ => -1) (g := I 31) (g' := fun _ => 0) hv hw (fun _ _ => rfl) (fun _ _ => rfl) ha ht P
  have hF : FI A B (I 35) a m P (FS A B (I 35) a t m P (fun _ => -1) (I 31)) := FI_all hv (fun _ _ => rfl) ha P
  have e1 : (FS A B (I 35) a t m P (fun _ => -1) (I 31)).1 t.toNat = (fnd A B fw a t m P).1 t.toNat := hE.1 t.toNat (by omega)
  have h70 := S_70 (d := d) (sp := sp) (rt := rt) (tt := tt) (z := z) hC ha ht hb0
  rw [e1] at h70
  by_cases c : (fnd A B fw a t m P).1 t.toNat = -1
  · rw [if_pos c] at h70 ⊢
    refine ⟨_, ((K_69 ..).trans ((T_69_0 ..).trans (bd_t h70 ((T_69_6 ..).trans (ci_t (by omega) rfl))))), FRc_FH FRc_r, fun q => absurd c q⟩
  · rw [if_neg c] at h70 ⊢
    have hle := FI_le ha hF
    rcases hF.2.2.1 t.toNat (by omega) with q | ⟨q1, i, q2, q3, q4⟩
    · exact absurd (e1.symm.trans q) c
    · have e : (FS A B (I 35) a t m P (fun _ => -1) (I 31)).2.1 i = t := by
        have : (FS A B (I 35) a t m P (fun _ => -1) (I 31)).2.1 i = ((t.toNat : Nat) : Int) := q4
        omega
      have hl := S_69l (d := d + 1) (sp := sp) (rt := rt) (tt := tt) (z := z) (t := t) (X := FH I A (FS A B (I 35) a t m P (fun _ => -1) (I 31))) (G := I 36) hv hP hm ha hC.2.1 rfl hF 80 0 i (I 35) rfl q3 (fun r hr => by have := hb0 r hr; omega) _ dl9
      rw [e, show pc (FH I A (FS A B (I 35) a t m P (fun _ => -1) (I 31))) 35 (I 35) = FH I A (FS A B (I 35) a t m P (fun _ => -1) (I 31)) from pc_self] at hl
      have ho := AU_out hv ha hF 80 i (I 35) (by omega) q2 q3 hb0 (fun _ _ _ => rfl)
      rw [e] at ho
      refine ⟨_, ((K_69 ..).trans ((T_69_0 ..).trans (bd_t h70 ((T_69_6 ..).trans (ci_f (by omega) hl))))), FRc_pc (FRc_FH FRc_r) (by omega), fun _ => ⟨fun r hr => ?_, ho.1⟩⟩
      show AU A B (FS A B (I 35) a t m P (fun _ => -1) (I 31)).1 a 80 t (I 35) r = _
      have h2 := AU_f (f' := (fnd A B fw a t m P).1) hF (fun b hb => hE.1 b hb) 80 i (I 35) q3
      rw [e] at h2
      rw [h2]
      exact AU_w 80 t (I 35) fw hw r hr
theorem CN_fr {A B : Nat → Int} {P m : Nat} {J : Nat → Nat → Int} (hC : CN A B P m (I 27) (I 28) (I 29)) (h : FRc I J) : CN A B P m (J 27) (J 28) (J 29) := by
  rw [FRc_f h (a := 27) (by decide) (by decide) (by decide) (by decide) (by decide) (by decide), FRc_f h (a := 28) (by decide) (by decide) (by decide) (by decide) (by decide) (by decide), FRc_f h (a := 29) (by decide) (by decide) (by decide) (by decide) (by decide) (by decide)]
  exact hC
theorem S_68 {A B : Nat → Int} {P m : Nat} {a t : Int} (n : Nat) (hC : CN A B P m (I 27) (I 28) (I 29)) (hn : n ≤ 150) (ha : 0 ≤ a ∧ a < P) (ht : 0 ≤ t ∧ t < P) (hp : 0 ≤ I 33 a.toNat ∧ I 33 a.toNat < 12) (hk : I 34 (I 33 a.toNat).toNat = t) : ∃ J, Call PG (d + 4) 68 [(2, 25), (0, a), (0, (n : Int))] (I, RF sp rt tt z.1, z) = some (some (0, wy A B a t m P n (fun _ => 0)), (J, RF sp rt tt z.1, z)) ∧ FRc I J := by
  obtain ⟨hv, hP, hm⟩ := hC.1
  have key : ∀ (k c : Nat) (fw : Nat → Int) (J : Nat → Nat → Int), c + k = n → FRc I J → (∀ r, r < m → J 35 r = fw r) → (∀ r, r < m → -1 ≤ J 35 r ∧ J 35 r ≤ 1) → ∃ J', Run PG (Call PG (d + 3)) 68 10 [(2, 25), (0, a), (0, (n : Int)), (0, (c : Int))] [] (J, RF sp rt tt z.1, z) (0, 0) = some (some (0, c + wy A B a t m P k fw), (J', RF sp rt tt z.1, z)) ∧ FRc I J' := by
    intro k
    induction k with
    | zero =>
      intro c fw J h1 hJ _ _
      refine ⟨J, (T_68_10 ..).trans (ci_f (by omega) ?_), hJ⟩
      show some (some (0, (c : Int)), (J, RF sp rt tt z.1, z)) = some (some (0, (c : Int) + 0), (J, RF sp rt tt z.1, z))
      rw [Int.add_zero]
    | succ k ih =>
      intro c fw J h1 hJ hw hb0
      have e33 : J 33 = I 33 := FRc_f hJ (by decide) (by decide) (by decide) (by decide) (by decide) (by decide)
      have e34 : J 34 = I 34 := FRc_f hJ (by decide) (by decide) (by decide) (by decide) (by decide) (by decide)
      obtain ⟨J2, q1, q2, q3⟩ := S_69 (d := d) (sp := sp) (rt := rt) (tt := tt) (z := z) (I := J) (fw := fw) (CN_fr hC hJ) ha ht hw hb0
      have hrun : ∀ R, Run PG (Call PG (d + 3)) 68 31 [(2, 25), (0, a), (0, (n : Int)), (0, (c : Int))] [(0, if (fnd A B fw a t m P).1 t.toNat = -1 then 0 else 1)] (J2, RF sp rt tt z.1, z) (0, 0) = R → Run PG (Call PG (d + 3)) 68 10 [(2, 25), (0, a), (0, (n : Int)), (0, (c : Int))] [] (J, RF sp rt tt z.1, z) (0, 0) = R := by
        intro R hR
        refine (T_68_10 ..).trans ?_
        refine ci_t (by omega) ?_
        refine ci_t (by omega) ?_
        rw [e33, e34, hk]
        refine ci_t hp ?_
        exact bd_t q1 hR
      unfold wy
      by_cases g : (fnd A B fw a t m P).1 t.toNat = -1
      · rw [if_pos g] at hrun ⊢
        refine ⟨J2, hrun _ ((T_68_31 ..).trans (ci_t (by omega) ?_)), FRc_t hJ q2⟩
        rw [Int.add_zero]
      · rw [if_neg g] at hrun ⊢
        obtain ⟨w1, w2⟩ := q3 g
        obtain ⟨J', r1, r2⟩ := ih (c + 1) (AU A B (fnd A B fw a t m P).1 a 80 t fw) J2 (by omega) (FRc_t hJ q2) w1 w2
        refine ⟨J', hrun _ ((T_68_31 ..).trans (ci_f (by omega) ?_)), r2⟩
        rw [w32_of (by omega) (by omega)]
        refine r1.trans ?_
        have : ((c + 1 : Nat) : Int) + wy A B a t m P k (AU A B (fnd A B fw a t m P).1 a 80 t fw) = (c : Int) + (1 + wy A B a t m P k (AU A B (fnd A B fw a t m P).1 a 80 t fw)) := by omega
        rw [this]
  have z0 : ∀ r, r < m → pc I 35 (fl (I 35) 150 0) 35 r = 0 := fun r hr => fl_in (by omega)
  obtain ⟨J, h1, h2⟩ := key n 0 (fun _ => 0) (pc I 35 (fl (I 35) 150 0)) (by omega) (FRc_pc FRc_r (by omega)) z0 (fun r hr => by rw [z0 r hr]; omega)
  refine ⟨J, (K_68 ..).trans ((T_68_0 ..).trans (bd_t (S_344 (c := 35) (n := 150) rfl (by omega)) ((T_68_8 ..).trans ?_))), h2⟩
  refine h1.trans ?_
  rw [show ((0 : Nat) : Int) = 0 from rfl, Int.zero_add]
end F2

