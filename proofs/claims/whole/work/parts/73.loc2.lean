/-! and so are the ways; the known things stay where another pit changes -/
section LP
variable {A B A' B' : Nat → Int} {m m' P P' : Nat} {Q : Nat → Prop}
theorem cgb_l (L : LOC A B A' B' m m' Q) {fw fw' : Nat → Int} (hw : ∀ r, r < m → fw' r = fw r) {r : Nat} (hr : r < m) (h : Int) : cgb fw' A' r h = cgb fw A r h := by
  unfold cgb
  rw [(L.2.1 r hr).1.1, hw r hr]
theorem fnd_loc {fw fw' : Nat → Int} {a t : Int} (L : LOC A B A' B' m m' Q) (hv : NV A B m P) (hP : P ≤ P') (hw : ∀ r, r < m → fw' r = fw r) (ha : 0 ≤ a ∧ a < P) (hq : Q a.toNat) : fnd A' B' fw' a t m' P' = fnd A B fw a t m P := by
  have key : ∀ k, itr (ffo A' B' fw' a t m') k (fs0 (fun _ => -1) (fun _ => 0) a) = itr (ffo A B fw a t m) k (fs0 (fun _ => -1) (fun _ => 0) a) ∧ RQ Q (itr (ffo A B fw a t m) k (fs0 (fun _ => -1) (fun _ => 0) a)) := by
    intro k
    induction k with
    | zero =>
      refine ⟨rfl, by show (0 : Int) ≤ 1; omega, fun i hi => ?_⟩
      have hi : (i : Int) < 1 := hi
      have : i = 0 := by omega
      subst this
      show Q (ud (fun _ => 0) 0 a 0).toNat
      rw [ud_eq]; exact hq
    | succ k ih =>
      obtain ⟨e, hR⟩ := ih
      show ffo A' B' fw' a t m' k (itr (ffo A' B' fw' a t m') k (fs0 (fun _ => -1) (fun _ => 0) a)) = ffo A B fw a t m k (itr (ffo A B fw a t m) k (fs0 (fun _ => -1) (fun _ => 0) a)) ∧ RQ Q (ffo A B fw a t m k (itr (ffo A B fw a t m) k (fs0 (fun _ => -1) (fun _ => 0) a)))
      rw [e]
      generalize itr (ffo A B fw a t m) k (fs0 (fun _ => -1) (fun _ => 0) a) = S at *
      unfold ffo
      by_cases c : (k : Int) < S.2.2 ∧ S.1 t.toNat = -1
      · rw [if_pos c, if_pos c]
        have hk := hR.2 k c.1
        constructor
        · refine itr_ext L.1 (fun r T hr => ?_) (fun r T h1 h2 => ?_)
          · unfold fss
            rw [oe_l1 L hr, cgb_l L hw hr]
          · unfold fss
            exact if_neg (fun q => q.1 (oe_l2 L h1 h2 hk))
        · have hi : ∀ r, r ≤ m → RQ Q (itr (fss A B fw a (S.2.1 k)) r S) := by
            intro r
            induction r with
            | zero => intro _; exact hR
            | succ r ih2 =>
              intro hr
              have i2 := ih2 (by omega)
              show RQ Q (fss A B fw a (S.2.1 k) r (itr (fss A B fw a (S.2.1 k)) r S))
              generalize itr (fss A B fw a (S.2.1 k)) r S = T at *
              unfold fss
              split
              · rename_i w
                exact RQ_up i2 (oe_q L (by omega) hk w.1).1
              · exact i2
          exact hi m (Nat.le_refl _)
      · rw [if_neg c, if_neg c]; exact ⟨rfl, hR⟩
  unfold fnd FS
  rw [(key P').1]
  have e := itr_add (ffo A B fw a t m) P (fs0 (fun _ => -1) (fun _ => 0) a) (P' - P)
  rw [show P + (P' - P) = P' by omega] at e
  rw [e]
  have hle := FI_le ha (FI_all (A := A) (B := B) (fw := fw) (t := t) (m := m) (f := fun _ => -1) (g := fun _ => 0) hv (fun _ _ => rfl) ha P)
  exact itr_id (fun i hi => if_neg (fun w => by omega))
theorem AU_loc {fw0 : Nat → Int} {a : Int} {S : ST} (L : LOC A B A' B' m m' Q) (H : FI A B fw0 a m P S) : ∀ (n i : Nat) (fw fw' : Nat → Int), (i : Int) < S.2.2 → (∀ r, r < m → fw' r = fw r) → ∀ r, r < m → AU A' B' S.1 a n (S.2.1 i) fw' r = AU A B S.1 a n (S.2.1 i) fw r := by
  have c2 := H.1.2.1
  have c3 := H.2.1
  have c6 := H.2.2.2.2
  intro n
  induction n with
  | zero => intro i fw fw' _ hw r hr; exact hw r hr
  | succ n ih =>
    intro i fw fw' hi hw r hr
    have h3 := c3 i hi
    unfold AU
    by_cases c : S.2.1 i = a
    · rw [if_pos c, if_pos c]; exact hw r hr
    · rw [if_neg c, if_neg c]
      have i0 : 0 < i := by
        rcases Nat.eq_zero_or_pos i with q | q
        · subst q; exact absurd c2 c
        · exact q
      obtain ⟨q1, j, q2, q3, q4⟩ := c6 i i0 hi
      have hrm : (S.1 (S.2.1 i).toNat).toNat < m := by omega
      rw [oe_l1 L hrm, q3]
      refine ih j _ _ (by omega) (fun q hq => ?_) r hr
      unfold ud
      split
      · rw [hw _ hrm]
        unfold dr
        rw [(L.2.1 _ hrm).1.2]
      · exact hw q hq
theorem wy_loc {a t : Int} (L : LOC A B A' B' m m' Q) (hv : NV A B m P) (hP : P ≤ P') (ha : 0 ≤ a ∧ a < P) (ht : 0 ≤ t ∧ t < P) (hq : Q a.toNat) : ∀ (n : Nat) (fw fw' : Nat → Int), (∀ r, r < m → fw' r = fw r) → wy A' B' a t m' P' n fw' = wy A B a t m P n fw := by
  intro n
  induction n with
  | zero => intro _ _ _; rfl
  | succ n ih =>
    intro fw fw' hw
    have H := fnd_FI (A := A) (B := B) (fw := fw) (t := t) (m := m) hv ha
    unfold wy
    rw [fnd_loc L hv hP hw ha hq]
    by_cases c : (fnd A B fw a t m P).1 t.toNat = -1
    · rw [if_pos c, if_pos c]
    · rw [if_neg c, if_neg c]
      rcases H.2.2.1 t.toNat (by omega) with q | ⟨q1, i, q2, q3, q4⟩
      · exact absurd q c
      · have ei : (fnd A B fw a t m P).2.1 i = t := by omega
        have h2 := AU_loc L H 80 i fw fw' q3 hw
        rw [ei] at h2
        rw [ih _ _ h2]
theorem FWV_loc {PP PP' bk bk' : Nat → Int} {p : Int} (L : LOC A B A' B' m m' (fun b => PP b = p)) (hv : NV A B m P) (hP : P ≤ P') (h1 : ∀ x, x < P → PP' x = PP x) (h2 : bk' p.toNat = bk p.toNat) (h3 : ∀ x, x < P → PP x = p → 0 ≤ bk p.toNat ∧ bk p.toNat < P) (h4 : ∀ x, P ≤ x → x < P' → ¬ PP' x = p) : FWV A' B' PP' bk' m' P' p = FWV A B PP bk m P p := by
  refine itr_ext hP (fun x f hx => ?_) (fun x f q1 q2 => if_neg (fun w => h4 x q1 q2 w.1))
  rw [h1 x hx]
  by_cases c : PP x = p
  · have e : WV A' B' PP' bk' m' P' x = WV A B PP bk m P x := by
      unfold WV
      rw [h1 x hx, c, h2]
      exact wy_loc L hv hP (by omega) (h3 x hx c) (by rw [Int.toNat_natCast]; exact c) 151 _ _ (fun _ _ => rfl)
    rw [e, c, h2]
  · rw [if_neg (fun w => c w.1), if_neg (fun w => c w.1)]
end LP
theorem LVc_loc {I J : Nat → Nat → Int} {q : Int} (hn : GN0 I) (hq : 0 ≤ q ∧ q < 12) (L : LOC (I 119) (I 120) (J 119) (J 120) (I 25 1).toNat (J 25 1).toNat (fun b => I 33 b = q)) (hP : (I 25 0).toNat ≤ (J 25 0).toNat)
    (ho : ∀ r : Nat, r < (I 25 1).toNat → I 33 (I 119 r).toNat = q → J 32 r = I 32 r) (hw : ∀ r : Nat, r < (I 25 1).toNat → J 26 r = I 26 r) (h33 : ∀ x : Nat, x < (I 25 0).toNat → J 33 x = I 33 x) (h3b : ∀ r : Nat, (I 25 1).toNat ≤ r → r < (J 25 1).toNat → ¬ J 33 (J 119 r).toNat = q) (hf : J 39 q.toNat = I 39 q.toNat ∧ J 40 q.toNat = I 40 q.toNat ∧ J 41 q.toNat = I 41 q.toNat) :
    LVc J q = LVc I q ∧ ∀ r : Nat, r < (I 25 1).toNat → I 33 (I 119 r).toNat = q → ARc J q r = ARc I q r := by
  obtain ⟨⟨g1, g2⟩, g3, g4, g5, g6, g7, g8, g9, g10⟩ := hn
  have hv := g7.1.1
  have hok : ∀ r, r < (I 25 1).toNat → I 33 (I 119 r).toNat = q → ok1 J r = ok1 I r := fun r hr e => by unfold ok1; rw [ho r hr e]
  unfold LVc ARc
  rw [hf.1, hf.2.1, hf.2.2]
  by_cases c : I 39 q.toNat = -1
  · rw [if_pos c, if_pos c]
    exact ⟨rfl, fun r hr e => by rw [if_pos c, if_pos c]⟩
  · have hfn := g10 q.toNat (Classical.byContradiction fun w => c (g5 q.toNat (by omega) (by omega)).2)
    rw [show ((q.toNat : Nat) : Int) = q by omega] at hfn
    rw [if_neg c, if_neg c]
    rcases hfn with w | ⟨w1, w2, w3, w4, w5⟩
    · exact absurd w c
    have hA : ∀ r, r < (I 25 1).toNat → AIRO (J 119) (J 120) (J 26) (ok1 J) (J 25 1).toNat (J 25 0).toNat (I 39 q.toNat) (I 40 q.toNat) (I 41 q.toNat) r = AIRO (I 119) (I 120) (I 26) (ok1 I) (I 25 1).toNat (I 25 0).toNat (I 39 q.toNat) (I 40 q.toNat) (I 41 q.toNat) r := fun r hr => AIRO_loc L hv hP hok (fun r hr _ => hw r hr) (by omega) w5 hr
    refine ⟨LAV_loc L.1 (fun r hr => ?_) (fun r hr e => ⟨hA r hr, hok r hr e⟩) h3b, fun r hr e => ?_⟩
    · have nv := hv r hr
      rw [(L.2.1 r hr).1.1, h33 _ (by omega)]
    · rw [if_neg c, if_neg c]
      exact hA r hr
theorem FWc_loc {I J : Nat → Nat → Int} {q : Int} (hn : GN0 I) (hq : 0 ≤ q ∧ q < 12) (L : LOC (I 119) (I 120) (J 119) (J 120) (I 25 1).toNat (J 25 1).toNat (fun b => I 33 b = q)) (hP : (I 25 0).toNat ≤ (J 25 0).toNat)
    (h33 : ∀ x : Nat, x < (I 25 0).toNat → J 33 x = I 33 x) (h34 : J 34 q.toNat = I 34 q.toNat) (h3b : ∀ x : Nat, (I 25 0).toNat ≤ x → x < (J 25 0).toNat → ¬ J 33 x = q) : FWc J q = FWc I q := by
  obtain ⟨⟨g1, g2⟩, g3, g4, g5, g6, g7, g8, g9, g10⟩ := hn
  exact FWV_loc L g7.1.1 hP h33 h34 (fun x hx e => by
    have := g6 x hx
    rw [e] at this
    omega) h3b

