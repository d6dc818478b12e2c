/-! what is reckoned of one pit asks for that pit's roads alone -/
theorem itr_ext {α : Type} {F F' : Nat → α → α} {m m' : Nat} {s : α} (hm : m ≤ m') (h1 : ∀ r a, r < m → F' r a = F r a) (h2 : ∀ r a, m ≤ r → r < m' → F' r a = a) : itr F' m' s = itr F m s := by
  have e := itr_add F' m s (m' - m)
  rw [show m + (m' - m) = m' by omega] at e
  rw [e, itr_id (fun i hi => h2 (m + i) _ (by omega) (by omega)), itr_congr h1]
theorem sm_ext2 {f f' : Nat → Int} {m : Nat} : ∀ {m' : Nat}, m ≤ m' → (∀ r, r < m → f' r = f r) → (∀ r, m ≤ r → r < m' → f' r = 0) → sm f' m' = sm f m
  | 0, h, h1, _ => by
    have : m = 0 := by omega
    subst this; rfl
  | m' + 1, h, h1, h2 => by
    by_cases c : m = m' + 1
    · subst c; exact sm_congr h1
    · show sm f' m' + f' m' = _
      rw [sm_ext2 (m' := m') (by omega) h1 (fun r a b => h2 r a (by omega)), h2 m' (by omega) (by omega), Int.add_zero]
def LOC (A B A' B' : Nat → Int) (m m' : Nat) (Q : Nat → Prop) : Prop := m ≤ m' ∧ (∀ r, r < m → (A' r = A r ∧ B' r = B r) ∧ (Q (A r).toNat ↔ Q (B r).toNat)) ∧ ∀ r, m ≤ r → r < m' → ¬ Q (A' r).toNat ∧ ¬ Q (B' r).toNat
section LO
variable {A B A' B' : Nat → Int} {m m' P P' : Nat} {Q : Nat → Prop}
theorem oe_l1 (L : LOC A B A' B' m m' Q) {r : Nat} (hr : r < m) (h : Int) : oe A' B' r h = oe A B r h := by
  have q := (L.2.1 r hr).1
  unfold oe
  rw [q.1, q.2]
theorem oe_l2 (L : LOC A B A' B' m m' Q) {r : Nat} (h1 : m ≤ r) (h2 : r < m') {h : Int} (hq : Q h.toNat) : oe A' B' r h = -1 := by
  have q := L.2.2 r h1 h2
  unfold oe
  rw [if_neg (fun w => q.1 (by rw [w]; exact hq)), if_neg (fun w => q.2 (by rw [w]; exact hq))]
theorem oe_q (L : LOC A B A' B' m m' Q) {r : Nat} (hr : r < m) {h : Int} (hq : Q h.toNat) (inc : ¬ oe A B r h = -1) : Q (oe A B r h).toNat ∧ Q (A r).toNat := by
  have q := (L.2.1 r hr).2
  unfold oe at inc ⊢
  by_cases c : A r = h
  · rw [if_pos c]
    rw [c] at q ⊢
    exact ⟨q.mp hq, hq⟩
  · rw [if_neg c] at inc ⊢
    by_cases c2 : B r = h
    · rw [if_pos c2]
      rw [c2] at q
      exact ⟨q.mpr hq, q.mpr hq⟩
    · rw [if_neg c2] at inc; exact absurd rfl inc
def RQ (Q : Nat → Prop) (S : ST) : Prop := 0 ≤ S.2.2 ∧ ∀ i : Nat, (i : Int) < S.2.2 → Q (S.2.1 i).toNat
theorem RQ_up {st ro : Nat → Int} {n b : Int} {st' : Nat → Int} (H : RQ Q (st, ro, n)) (hb : Q b.toNat) : RQ Q (st', ud ro n.toNat b, n + 1) := by
  have h0 : 0 ≤ n := H.1
  refine ⟨by show 0 ≤ n + 1; omega, fun i hi => ?_⟩
  have hi : (i : Int) < n + 1 := hi
  show Q (ud ro n.toNat b i).toNat
  unfold ud
  split
  · exact hb
  · exact H.2 i (by show (i : Int) < n; omega)
theorem bfs_loc {ok ok' : Nat → Bool} {f g : Nat → Int} {a : Int} (L : LOC A B A' B' m m' Q) (hv : NV A B m P) (hP : P ≤ P') (ho : ∀ r, r < m → Q (A r).toNat → ok' r = ok r) (hf : ∀ b, b < P → f b = -1) (ha : 0 ≤ a ∧ a < P) (hq : Q a.toNat) : bfs A' B' ok' m' P' f g a = bfs A B ok m P f g a := by
  have key : ∀ k, itr (bfo A' B' ok' m') k (bf0 f g a) = itr (bfo A B ok m) k (bf0 f g a) ∧ RQ Q (itr (bfo A B ok m) k (bf0 f g a)) := by
    intro k
    induction k with
    | zero =>
      refine ⟨rfl, by show (0 : Int) ≤ 1; omega, fun i hi => ?_⟩
      have hi : (i : Int) < 1 := hi
      have : i = 0 := by omega
      subst this
      show Q (ud g 0 a 0).toNat
      rw [ud_eq]; exact hq
    | succ k ih =>
      obtain ⟨e, hR⟩ := ih
      show bfo A' B' ok' m' k (itr (bfo A' B' ok' m') k (bf0 f g a)) = bfo A B ok m k (itr (bfo A B ok m) k (bf0 f g a)) ∧ RQ Q (bfo A B ok m k (itr (bfo A B ok m) k (bf0 f g a)))
      rw [e]
      generalize itr (bfo A B ok m) k (bf0 f g a) = S at *
      unfold bfo
      by_cases c : (k : Int) < S.2.2
      · rw [if_pos c, if_pos c]
        have hk := hR.2 k c
        constructor
        · refine itr_ext L.1 (fun r T hr => ?_) (fun r T h1 h2 => ?_)
          · unfold bst
            rw [oe_l1 L hr]
            by_cases inc : oe A B r (S.2.1 k) = -1
            · rw [if_neg (fun q => q.1 inc), if_neg (fun q => q.1 inc)]
            · rw [ho r hr (oe_q L hr hk inc).2]
          · unfold bst
            exact if_neg (fun q => q.1 (oe_l2 L h1 h2 hk))
        · have hi : ∀ r, r ≤ m → RQ Q (itr (bst A B ok (S.2.1 k)) r S) := by
            intro r
            induction r with
            | zero => intro _; exact hR
            | succ r ih2 =>
              intro hr
              have i2 := ih2 (by omega)
              show RQ Q (bst A B ok (S.2.1 k) r (itr (bst A B ok (S.2.1 k)) r S))
              generalize itr (bst A B ok (S.2.1 k)) r S = T at *
              unfold bst
              split
              · rename_i w
                exact RQ_up i2 (oe_q L (by omega) hk w.1).1
              · exact i2
          exact hi m (Nat.le_refl _)
      · rw [if_neg c, if_neg c]; exact ⟨rfl, hR⟩
  unfold bfs
  rw [(key P').1]
  have e := itr_add (bfo A B ok m) P (bf0 f g a) (P' - P)
  rw [show P + (P' - P) = P' by omega] at e
  rw [e]
  have hle := BI_le (BI_all (A := A) (B := B) (ok := ok) (m := m) (g := g) hv hf ha P)
  exact itr_id (fun i hi => if_neg (fun w => by omega))
/-- the walk comes to no other place -/
theorem bfs_in {ok : Nat → Bool} {f g : Nat → Int} {a : Int} (L : LOC A B A' B' m m' Q) (hv : NV A B m P) (hf : ∀ b, f b = -1) (ha : 0 ≤ a ∧ a < P) (hq : Q a.toNat) : ∀ b, ¬ (b < P ∧ Q b) → (bfs A B ok m P f g a).1 b = -1 := by
  have key : ∀ k, (∀ b, ¬ (b < P ∧ Q b) → (itr (bfo A B ok m) k (bf0 f g a)).1 b = -1) ∧ RQ Q (itr (bfo A B ok m) k (bf0 f g a)) := by
    intro k
    induction k with
    | zero =>
      refine ⟨fun b hb => ?_, by show (0 : Int) ≤ 1; omega, fun i hi => ?_⟩
      · show ud f a.toNat 0 b = -1
        rw [ud_ne (fun q => hb (by rw [q]; exact ⟨by omega, hq⟩))]
        exact hf b
      · have hi : (i : Int) < 1 := hi
        have : i = 0 := by omega
        subst this
        show Q (ud g 0 a 0).toNat
        rw [ud_eq]; exact hq
    | succ k ih =>
      obtain ⟨e, hR⟩ := ih
      have hB := BI_all (A := A) (B := B) (ok := ok) (m := m) (g := g) hv (fun b _ => hf b) ha k
      show (∀ b, ¬ (b < P ∧ Q b) → (bfo A B ok m k (itr (bfo A B ok m) k (bf0 f g a))).1 b = -1) ∧ RQ Q (bfo A B ok m k (itr (bfo A B ok m) k (bf0 f g a)))
      generalize itr (bfo A B ok m) k (bf0 f g a) = S at *
      unfold bfo
      by_cases c : (k : Int) < S.2.2
      · rw [if_pos c]
        have hk := hR.2 k c
        have hrow := (hB.1.2 k c).1
        have hi : ∀ r, r ≤ m → (∀ b, ¬ (b < P ∧ Q b) → (itr (bst A B ok (S.2.1 k)) r S).1 b = -1) ∧ RQ Q (itr (bst A B ok (S.2.1 k)) r S) := by
          intro r
          induction r with
          | zero => intro _; exact ⟨e, hR⟩
          | succ r ih2 =>
            intro hr
            have i2 := ih2 (by omega)
            show (∀ b, ¬ (b < P ∧ Q b) → (bst A B ok (S.2.1 k) r (itr (bst A B ok (S.2.1 k)) r S)).1 b = -1) ∧ RQ Q (bst A B ok (S.2.1 k) r (itr (bst A B ok (S.2.1 k)) r S))
            generalize itr (bst A B ok (S.2.1 k)) r S = T at *
            unfold bst
            split
            · rename_i w
              have hb := oe_in hv (show r < m by omega) hrow.1 w.1
              refine ⟨fun b hb' => ?_, RQ_up i2.2 (oe_q L (by omega) hk w.1).1⟩
              show ud T.1 _ _ b = -1
              rw [ud_ne (fun q => hb' (by rw [q]; exact ⟨by omega, (oe_q L (by omega) hk w.1).1⟩))]
              exact i2.1 b hb'
            · exact i2
        exact hi m (Nat.le_refl _)
      · rw [if_neg c]; exact ⟨e, hR⟩
  exact (key P).1
theorem onb_l1 {st : Nat → Int} {ok ok' : Nat → Bool} (L : LOC A B A' B' m m' Q) (ho : ∀ r, r < m → Q (A r).toNat → ok' r = ok r) {h r : Nat} (hq : Q h) (hr : r < m) : onb A' B' st ok' h r = onb A B st ok h r := by
  unfold onb
  rw [oe_l1 L hr]
  by_cases inc : oe A B r h = -1
  · simp [inc]
  · rw [ho r hr (oe_q L hr (h := (h : Int)) (by rw [Int.toNat_natCast]; exact hq) inc).2]
theorem onb_l2 {st : Nat → Int} {ok' : Nat → Bool} (L : LOC A B A' B' m m' Q) {h r : Nat} (hq : Q h) (h1 : m ≤ r) (h2 : r < m') : onb A' B' st ok' h r = false := by
  unfold onb
  rw [oe_l2 L h1 h2 (h := (h : Int)) (by rw [Int.toNat_natCast]; exact hq)]
  rfl
theorem SHV_l {on on' : Nat → Bool} {w w' : Nat → Int} {x : Int} {r : Nat} (hm : m ≤ m') (h1 : ∀ r, r < m → on' r = on r) (h2 : ∀ r, m ≤ r → r < m' → on' r = false) (hw : ∀ r, r < m → on r = true → w' r = w r) (hr : r < m) (hor : on r = true) : SHV on' w' m' x r = SHV on w m x r := by
  have e0 : SW on' w' m' = SW on w m := sm_ext2 hm (fun q hq => by
    rw [h1 q hq]
    by_cases c : on q = true
    · rw [if_pos c, if_pos c, hw q hq c]
    · rw [if_neg c, if_neg c]) (fun q a b => by rw [h2 q a b]; rfl)
  have e1 : LF on' w' m' x m' = LF on w m x m := by
    unfold LF
    rw [e0, sm_ext2 (f := fun r => if on r = true then Int.tdiv (x * w r) (SW on w m) else 0) hm (fun q hq => by
      rw [h1 q hq]
      by_cases c : on q = true
      · rw [if_pos c, if_pos c, hw q hq c]
      · rw [if_neg c, if_neg c]) (fun q a b => by rw [h2 q a b]; rfl)]
  unfold SHV
  rw [e0, e1, hw r hr hor, L2_cg (on' := on) (fun q hq => h1 q (by omega))]
theorem CTA_l {st w w' : Nat → Int} {ok ok' : Nat → Bool} {h b : Nat} {x : Int} (L : LOC A B A' B' m m' Q) (ho : ∀ r, r < m → Q (A r).toNat → ok' r = ok r) (hw : ∀ r, r < m → Q (A r).toNat → w' r = w r) (hq : Q h) : CTA A' B' st w' ok' m' h x b = CTA A B st w ok m h x b := by
  have hon : ∀ r, r < m → onb A B st ok h r = true → Q (A r).toNat := fun r hr o => (oe_q L hr (h := (h : Int)) (by rw [Int.toNat_natCast]; exact hq) (of_decide_eq_true o).1).2
  unfold CTA
  split
  · refine sm_ext2 L.1 (fun r hr => ?_) (fun r a b' => by rw [onb_l2 L hq a b']; exact if_neg (fun q => by cases q.1))
    rw [onb_l1 L ho hq hr, oe_l1 L hr]
    by_cases c : onb A B st ok h r = true ∧ oe A B r h = b
    · rw [if_pos c, if_pos c]
      exact SHV_l L.1 (fun q hq2 => onb_l1 L ho hq hq2) (fun q a b' => onb_l2 L hq a b') (fun q hq2 o => hw q hq2 (hon q hq2 o)) hr c.1
    · rw [if_neg c, if_neg c]
  · rfl
/-- levels above the lowest: all their places are of the pit -/
theorem ZZ_l {st w w' : Nat → Int} {ok ok' : Nat → Bool} (L : LOC A B A' B' m m' Q) (hv : NV A B m P) (hP : P ≤ P') (ho : ∀ r, r < m → Q (A r).toNat → ok' r = ok r) (hw : ∀ r, r < m → Q (A r).toNat → w' r = w r) (hst : ∀ b, ¬ (b < P ∧ Q b) → st b = -1) : ∀ {k : Nat} {d : Int} {s s' : OC}, (k : Int) ≤ d → ((∀ b, s'.2 b = s.2 b) ∧ ∀ r, r < m → s'.1 r = s.1 r) → ((∀ b, (ZZ A' B' st w' ok' m' P' k d s').2 b = (ZZ A B st w ok m P k d s).2 b) ∧ ∀ r, r < m → (ZZ A' B' st w' ok' m' P' k d s').1 r = (ZZ A B st w ok m P k d s).1 r)
  | 0, _, _, _, _, H => H
  | k + 1, d, s, s', hd, H => by
    refine ZZ_l L hv hP ho hw hst (k := k) (d := d - 1) (by omega) ?_
    have hQ : ∀ h, st h = d → h < P ∧ Q h := fun h e => Classical.byContradiction fun w => by have := hst h w; omega
    constructor
    · intro b
      show s'.2 b + sm _ P' = s.2 b + sm _ P
      rw [H.1 b, sm_ext2 (f := fun h => if decide (st h = d) = true then CTA A B st w ok m h (s.2 h) b else 0) hP (fun h hh => ?_) (fun h h1 h2 => ?_)]
      · by_cases c : st h = d
        · rw [H.1 h, CTA_l L ho hw (hQ h c).2]
        · simp [c]
      · by_cases c : st h = d
        · have := (hQ h c).1; omega
        · simp [c]
    · intro r hr
      have q := (L.2.1 r hr).1
      have nv := hv r hr
      have eu : upr A' B' st r = upr A B st r := by unfold upr; rw [q.1, q.2]
      have hu : 0 ≤ upr A B st r := by unfold upr; split <;> omega
      show (if _ then _ else s'.1 r) = (if _ then _ else s.1 r)
      rw [eu, H.1, H.2 r hr]
      by_cases c : st (upr A B st r).toNat = d
      · have hq := (hQ _ c).2
        rw [onb_l1 L ho hq hr]
        by_cases c2 : decide (st (upr A B st r).toNat = d) = true ∧ 0 < s.2 (upr A B st r).toNat ∧ r < m ∧ onb A B st ok (upr A B st r).toNat r = true
        · rw [if_pos ⟨c2.1, c2.2.1, by have := L.1; omega, c2.2.2.2⟩, if_pos c2]
          exact SHV_l L.1 (fun p hp => onb_l1 L ho hq hp) (fun p a b => onb_l2 L hq a b) (fun p hp o => hw p hp (oe_q L hp (h := (((upr A B st r).toNat : Nat) : Int)) (by rw [Int.toNat_natCast]; exact hq) (of_decide_eq_true o).1).2) hr c2.2.2.2
        · rw [if_neg (fun w => c2 ⟨w.1, w.2.1, hr, w.2.2.2⟩), if_neg c2]
      · rw [if_neg (fun w => c (of_decide_eq_true w.1)), if_neg (fun w => c (of_decide_eq_true w.1))]
theorem AIRO_loc {w w' : Nat → Int} {ok ok' : Nat → Bool} {dn up air : Int} (L : LOC A B A' B' m m' Q) (hv : NV A B m P) (hP : P ≤ P') (ho : ∀ r, r < m → Q (A r).toNat → ok' r = ok r) (hw : ∀ r, r < m → Q (A r).toNat → w' r = w r) (hu : 0 ≤ up ∧ up < P) (hq : Q up.toNat) {r : Nat} (hr : r < m) : AIRO A' B' w' ok' m' P' dn up air r = AIRO A B w ok m P dn up air r := by
  unfold AIRO
  rw [bfs_loc (ok := ok) L hv hP ho (fun _ _ => rfl) hu hq]
  have hin := bfs_in (ok := ok) (f := fun _ => -1) (g := fun _ => 0) L hv (fun _ => rfl) hu hq
  generalize bfs A B ok m P (fun _ => -1) (fun _ => 0) up = S at *
  split
  · rfl
  · exact (ZZ_l L hv hP ho hw hin (k := 80) (d := 80) (by omega) ⟨fun _ => rfl, fun _ _ => rfl⟩).2 r hr
theorem LAV_loc {PP PP' o o' : Nat → Int} {ok ok' : Nat → Bool} {p : Int} (hm : m ≤ m') (h1 : ∀ r, r < m → PP' (A' r).toNat = PP (A r).toNat) (h2 : ∀ r, r < m → PP (A r).toNat = p → o' r = o r ∧ ok' r = ok r) (h3 : ∀ r, m ≤ r → r < m' → ¬ PP' (A' r).toNat = p) : LAV A' PP' o' ok' m' p = LAV A PP o ok m p := by
  refine itr_ext hm (fun r a hr => ?_) (fun r a q1 q2 => if_neg (fun w => h3 r q1 q2 w.1))
  rw [h1 r hr]
  by_cases c : PP (A r).toNat = p
  · rw [(h2 r hr c).1, (h2 r hr c).2]
  · rw [if_neg (fun w => c w.1), if_neg (fun w => c w.1)]
end LO

