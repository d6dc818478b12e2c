/-! the class splits all; its least air -/
def LAV (A PP o : Nat → Int) (ok : Nat → Bool) (m : Nat) (p : Int) : Int := itr (fun (r : Nat) (a : Int) => if PP (A r).toNat = p ∧ ok r = true ∧ (a = -1 ∨ o r < a) then o r else a) m (-1)
theorem LAV_cg {A PP o o' : Nat → Int} {ok ok' : Nat → Bool} {m : Nat} {p : Int} (h : ∀ r, r < m → PP (A r).toNat = p → o r = o' r) (h2 : ∀ r, r < m → ok r = ok' r) : LAV A PP o ok m p = LAV A PP o' ok' m p := by
  refine itr_congr (fun r a hr => ?_)
  rw [h2 r hr]
  by_cases c : PP (A r).toNat = p
  · rw [h r hr c]
  · rw [if_neg (fun q => c q.1), if_neg (fun q => c q.1)]
def AIRO (A B w : Nat → Int) (ok : Nat → Bool) (m P : Nat) (dn up air : Int) : Nat → Int :=
  if (bfs A B ok m P (fun _ => -1) (fun _ => 0) up).1 dn.toNat = -1 then fun _ => 0 else (ZZ A B (bfs A B ok m P (fun _ => -1) (fun _ => 0) up).1 w ok m P 80 80 (fun _ => 0, ud (fun _ => 0) dn.toNat air)).1
noncomputable def QQ (S : ST) (i : Nat) : Nat → Bool := fun h => @decide (∃ j : Nat, i < j ∧ (j : Int) < S.2.2 ∧ S.2.1 j = h) (Classical.propDecidable _)
theorem QQ_iff {S : ST} {i h : Nat} : QQ S i h = true ↔ ∃ j : Nat, i < j ∧ (j : Int) < S.2.2 ∧ S.2.1 j = h := by
  unfold QQ
  exact @decide_eq_true_iff _ (Classical.propDecidable _)
theorem CI_cg {P : Nat} {X : Int} {c : Nat → Int} {Q Q' : Nat → Bool} (h : ∀ b, b < P → Q b = Q' b) (H : CI P X c Q) : CI P X c Q' := by
  have e : sm (fun b => if Q' b = true then 0 else c b) P = sm (fun b => if Q b = true then 0 else c b) P := sm_congr (fun b hb => by rw [h b hb])
  exact ⟨H.1, by rw [e]; exact H.2⟩
/-- the air stays in its pit -/
def PX (A PP o0 : Nat → Int) (P m : Nat) (p : Int) (s : OC) : Prop := (∀ b, b < P → ¬ PP b = p → s.2 b = 0) ∧ ∀ r, r < m → ¬ PP (A r).toNat = p → s.1 r = o0 r
theorem PX_pro {A B st w PP o0 : Nat → Int} {ok : Nat → Bool} {P m h : Nat} {p : Int} {s : OC} (hv : NV A B m P) (hpp : ∀ r, r < m → PP (A r).toNat = PP (B r).toNat) (hh : h < P) (H : PX A PP o0 P m p s) : PX A PP o0 P m p (PRO A B st w ok m h s) := by
  by_cases c : 0 < s.2 h
  · have hp : PP h = p := Classical.byContradiction fun q => by have := H.1 h hh q; omega
    have hon : ∀ r, r < m → onb A B st ok h r = true → PP (A r).toNat = p ∧ PP (oe A B r h).toNat = p := fun r hr ho => by
      have inc := (of_decide_eq_true ho).1
      have e := hpp r hr
      unfold oe at inc ⊢
      by_cases q : A r = h
      · rw [if_pos q]
        rw [q, Int.toNat_natCast] at e ⊢
        exact ⟨hp, by rw [← e]; exact hp⟩
      · rw [if_neg q] at inc ⊢
        by_cases q2 : B r = h
        · rw [if_pos q2]
          rw [q2, Int.toNat_natCast] at e
          exact ⟨e.trans hp, e.trans hp⟩
        · rw [if_neg q2] at inc; exact absurd rfl inc
    constructor
    · intro b hb hn
      show s.2 b + CTA A B st w ok m h (s.2 h) b = 0
      rw [H.1 b hb hn]
      unfold CTA
      rw [if_pos c, sm_zero (fun r hr => if_neg (fun q => hn (by have := (hon r hr q.1).2; rw [q.2, Int.toNat_natCast] at this; exact this)))]
      rfl
    · intro r hr hn
      show (if 0 < s.2 h ∧ r < m ∧ onb A B st ok h r = true then _ else s.1 r) = o0 r
      rw [if_neg (fun q => hn (hon r hr q.2.2).1)]
      exact H.2 r hr hn
  · rw [PRO_0 c]; exact H
section B1
variable {d : Nat} {I : Nat → Nat → Int} {sp rt : Nat} {tt : Nat → Nat} {z : Zs}
theorem AC_AC {X : Nat → Nat → Int} {o c o' c' : Nat → Int} : AC (AC X o c) o' c' = AC X o' c' := by
  unfold AC
  funext a j
  unfold pc
  by_cases h : a = 43
  · rw [if_pos h, if_pos h]
  · rw [if_neg h, if_neg h]
    by_cases h2 : a = 42
    · simp [h2]
    · simp [h, h2]
theorem S_60 {A B : Nat → Int} {P m r : Nat} (hC : CN A B P m (I 27) (I 28) (I 29)) (hr : r < m) : Call PG (d + 1) 60 [(2, 25), (0, (r : Int))] (I, RF sp rt tt z.1, z) = some (some (0, I 33 (A r).toNat), (I, RF sp rt tt z.1, z)) := by
  obtain ⟨⟨hv, hP, hm⟩, hE, -, -⟩ := hC
  have nv := hv r hr
  have e := (hE r hr).1
  refine (K_60 ..).trans ?_
  refine (T_60_0 ..).trans ?_
  rw [w32_of (by omega) (by omega), show (2 * (r : Int)).toNat = 2 * r by omega, e]
  refine ci_t (by omega) ?_
  refine ci_t (by omega) ?_
  rfl
theorem S_65 {A B : Nat → Int} {P m : Nat} {p : Int} (hC : CN A B P m (I 27) (I 28) (I 29)) (h1 : I 25 1 = m) : Call PG (d + 2) 65 [(2, 38), (2, 25), (0, p)] (I, RF sp rt tt z.1, z) = some (some (0, LAV A (I 33) (I 42) (ok1 I) m p), (I, RF sp rt tt z.1, z)) := by
  have hm := hC.1.2.2
  refine (K_65 ..).trans ?_
  refine (T_65_0 ..).trans ?_
  refine loop_p (fun (r : Nat) (a : Int) => if I 33 (A r).toNat = p ∧ ok1 I r = true ∧ (a = -1 ∨ I 42 r < a) then I 42 r else a) (fun (r : Nat) (a : Int) => Run PG (Call PG (d + 1)) 65 5 [(2, 38), (2, 25), (0, p), (0, a), (0, (r : Int))] [] (I, RF sp rt tt z.1, z) (0, 0) = some (some (0, LAV A (I 33) (I 42) (ok1 I) m p), (I, RF sp rt tt z.1, z))) m (-1) ?_ ?_
  · intro r a hr _ ih
    have ih : Run PG (Call PG (d + 1)) 65 5 [(2, 38), (2, 25), (0, p), (0, if I 33 (A r).toNat = p ∧ ok1 I r = true ∧ (a = -1 ∨ I 42 r < a) then I 42 r else a), (0, ((r + 1 : Nat) : Int))] [] (I, RF sp rt tt z.1, z) (0, 0) = some (some (0, LAV A (I 33) (I 42) (ok1 I) m p), (I, RF sp rt tt z.1, z)) := ih
    have hr150 : 0 ≤ (r : Int) ∧ (r : Int) < 150 := ⟨Int.natCast_nonneg _, by omega⟩
    have e1 : ∀ _ : Unit, w32 ((r : Int) + 1) = ((r + 1 : Nat) : Int) := fun _ => ws_n (by omega)
    refine (T_65_5 ..).trans ?_
    refine ci_t (by omega) ?_
    refine bd_t (S_60 hC hr) ?_
    refine (T_65_20 ..).trans ?_
    by_cases c1 : I 33 (A r).toNat = p
    · refine ci_t c1 ?_
      refine bd_t (S_62 hr150) ?_
      refine (T_65_30 ..).trans ?_
      by_cases c2 : I 32 r = 1
      · refine ci_bt (fun w => w c2) ?_
        have nc : ¬ ok1 I r = true := fun q => of_decide_eq_true (p := ¬ I 32 r = 1) q c2
        rw [if_neg (fun q => nc q.2.1)] at ih
        rw [e1 ()]
        exact ih
      · refine ci_bf c2 ?_
        by_cases c3 : a = -1
        · rw [if_pos ⟨c1, decide_eq_true c2, Or.inl c3⟩] at ih
          refine ci_t c3 ?_
          refine ci_t hr150 ?_
          rw [e1 ()]
          exact ih
        · refine ci_f c3 ?_
          refine ci_t hr150 ?_
          by_cases c4 : I 42 r < a
          · rw [if_pos ⟨c1, decide_eq_true c2, Or.inr c4⟩] at ih
            refine ci_t c4 ?_
            refine ci_t hr150 ?_
            rw [e1 ()]
            exact ih
          · rw [if_neg (fun q => by rcases q.2.2 with w | w; exact c3 w; exact c4 w)] at ih
            refine ci_f c4 ?_
            rw [e1 ()]
            exact ih
    · refine ci_f c1 ?_
      rw [if_neg (fun q => c1 q.1)] at ih
      rw [e1 ()]
      exact ih
  · refine (T_65_5 ..).trans ?_
    exact ci_f (by omega) rfl
/-- the walk back over the row -/
theorem S_59l {A B : Nat → Int} {P m : Nat} {p : Int} {X : Nat → Nat → Int} {S : ST} {o0 : Nat → Int} {R : Option Res} (hC : CN A B P m (X 27) (X 28) (X 29)) (hw : ∀ r, r < m → 1 ≤ X 26 r ∧ X 26 r ≤ 100) (hpp : ∀ r, r < m → X 33 (A r).toNat = X 33 (B r).toNat) (hS : BW P S) (hst : ∀ b, b < P → -1 ≤ S.1 b ∧ S.1 b ≤ 80) (e30 : X 30 = S.1) (e31 : X 31 = S.2.1) :
    ∀ (k : Nat) (s : OC), (k : Int) < S.2.2 → CI P 1000000 s.2 (QQ S k) → PX A (X 33) o0 P m p s →
    (∀ s', s' = RW A B S.1 (X 26) (ok1 X) m S.2.1 k s → PX A (X 33) o0 P m p s' → Run PG (Call PG (d + 3)) 59 102 [(2, 38), (2, 25), (0, p), (0, 0)] [] (AC X s'.1 s'.2, RF sp rt tt z.1, z) (0, 0) = R) →
    Run PG (Call PG (d + 3)) 59 102 [(2, 38), (2, 25), (0, p), (0, (k : Int))] [] (AC X s.1 s.2, RF sp rt tt z.1, z) (0, 0) = R := by
  obtain ⟨⟨n1, n2, n3⟩, c2, c3, c4, c5⟩ := hS
  intro k
  induction k with
  | zero => intro s _ _ hx hR; exact hR s rfl hx
  | succ k ih =>
    intro s hk hci hx hR
    have hr := c2 (k + 1) hk
    have hv := hC.1.1
    have hq : QQ S (k + 1) (S.2.1 (k + 1)).toNat = false := by
      rw [← Bool.not_eq_true]
      intro q
      obtain ⟨j, q3, q4, q5⟩ := QQ_iff.mp q
      have := (c4 (k + 1) j q3 q4).1
      omega
    have hcb : ∀ b, b < P → S.1 b = S.1 (S.2.1 (k + 1)).toNat - 1 → 0 ≤ s.2 b ∧ s.2 b ≤ 1000000 := fun b hb e => by
      refine CI_le hci hb ?_
      rw [← Bool.not_eq_true]
      intro q
      obtain ⟨j, q3, q4, q5⟩ := QQ_iff.mp q
      have := (c4 (k + 1) j q3 q4).2
      rw [q5, Int.toNat_natCast] at this
      omega
    have h63 := S_63 (d := d) (I := AC X s.1 s.2) (sp := sp) (rt := rt) (tt := tt) (z := z) (A := A) (B := B) (P := P) (m := m) (h := (S.2.1 (k + 1)).toNat) hC (by omega) hw (by
      show -1 ≤ X 30 (S.2.1 (k + 1)).toNat ∧ X 30 (S.2.1 (k + 1)).toNat ≤ 80
      rw [e30]; exact hst _ (by omega)) (CI_le hci (by omega) hq) (by
      show ∀ b, b < P → X 30 b = X 30 (S.2.1 (k + 1)).toNat - 1 → 0 ≤ s.2 b ∧ s.2 b ≤ 1000000
      rw [e30]; exact hcb)
    rw [AC_AC, show AC X s.1 s.2 30 = X 30 from rfl, show AC X s.1 s.2 26 = X 26 from rfl, show ok1 (AC X s.1 s.2) = ok1 X from rfl, show AC X s.1 s.2 42 = s.1 from rfl, show AC X s.1 s.2 43 = s.2 from rfl, e30, show (((S.2.1 (k + 1)).toNat : Nat) : Int) = S.2.1 (k + 1) by omega] at h63
    refine (T_59_102 ..).trans ?_
    refine ci_f (by omega) ?_
    refine ci_t (by omega) ?_
    rw [show AC X s.1 s.2 31 (((k + 1 : Nat) : Int)).toNat = S.2.1 (k + 1) from congrFun e31 (k + 1)]
    refine bd_t h63 ?_
    refine (T_59_117 ..).trans ?_
    rw [show w32 (((k + 1 : Nat) : Int) + -1) = (k : Int) by rw [w32_of (by omega) (by omega)]; omega]
    refine ih (PRO A B S.1 (X 26) (ok1 X) m (S.2.1 (k + 1)).toNat s) (by omega) ?_ (PX_pro hv hpp (by omega) hx) (fun s' hs' => hR s' hs')
    refine CI_cg (fun b hb => ?_) (CI_pro (A := A) (B := B) (st := S.1) (w := X 26) (ok := ok1 X) hv (fun r hr => (hw r hr).1) (by omega) hq (fun q hq1 hq2 => ?_) hci)
    · refine bool_ext ?_
      rw [Bool.or_eq_true, decide_eq_true_iff, QQ_iff, QQ_iff]
      constructor
      · rintro (⟨j, q3, q4, q5⟩ | q)
        · exact ⟨j, by omega, q4, q5⟩
        · exact ⟨k + 1, by omega, hk, by omega⟩
      · rintro ⟨j, q3, q4, q5⟩
        by_cases u : j = k + 1
        · subst u; exact Or.inr (by omega)
        · exact Or.inl ⟨j, by omega, q4, q5⟩
    · obtain ⟨j, q3, q4, q5⟩ := QQ_iff.mp hq2
      have := (c4 (k + 1) j q3 q4).2
      rw [q5, Int.toNat_natCast] at this
      exact this
end B1

