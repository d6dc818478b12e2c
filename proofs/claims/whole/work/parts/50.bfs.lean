/-! a walk through a net, the nearest first -/
def ud (f : Nat → Int) (k : Nat) (v : Int) : Nat → Int := fun j => if j = k then v else f j
theorem ud_eq {f : Nat → Int} {k : Nat} {v : Int} : ud f k v k = v := if_pos rfl
theorem ud_ne {f : Nat → Int} {k j : Nat} {v : Int} (h : ¬ j = k) : ud f k v j = f j := if_neg h
abbrev ST : Type := (Nat → Int) × (Nat → Int) × Int
def oe (A B : Nat → Int) (r : Nat) (a : Int) : Int := if A r = a then B r else if B r = a then A r else -1
def bst (A B : Nat → Int) (ok : Nat → Bool) (h : Int) (r : Nat) (S : ST) : ST :=
  if ¬ oe A B r h = -1 ∧ S.1 (oe A B r h).toNat = -1 ∧ ok r = true then (ud S.1 (oe A B r h).toNat (S.1 h.toNat + 1), ud S.2.1 S.2.2.toNat (oe A B r h), S.2.2 + 1) else S
def bfo (A B : Nat → Int) (ok : Nat → Bool) (m : Nat) (k : Nat) (S : ST) : ST := if (k : Int) < S.2.2 then itr (bst A B ok (S.2.1 k)) m S else S
def bf0 (f g : Nat → Int) (a : Int) : ST := (ud f a.toNat 0, ud g 0 a, 1)
def bfs (A B : Nat → Int) (ok : Nat → Bool) (m P : Nat) (f g : Nat → Int) (a : Int) : ST := itr (bfo A B ok m) P (bf0 f g a)
def NV (A B : Nat → Int) (m P : Nat) : Prop := ∀ r, r < m → (0 ≤ A r ∧ A r < P) ∧ (0 ≤ B r ∧ B r < P) ∧ ¬ A r = B r
theorem oe_in {A B : Nat → Int} {m P r : Nat} {a : Int} (h : NV A B m P) (hr : r < m) (ha : 0 ≤ a) (e : ¬ oe A B r a = -1) : 0 ≤ oe A B r a ∧ oe A B r a < P ∧ ¬ oe A B r a = a := by
  have q := h r hr
  unfold oe at e ⊢
  by_cases c : A r = a
  · rw [if_pos c]; omega
  · rw [if_neg c] at e ⊢
    by_cases c2 : B r = a
    · rw [if_pos c2]; omega
    · rw [if_neg c2] at e; exact absurd rfl e
theorem oe_sym {A B : Nat → Int} {m P r : Nat} {a b : Int} (h : NV A B m P) (hr : r < m) (ha : 0 ≤ a) (e : oe A B r a = b) (hb : ¬ b = -1) : oe A B r b = a := by
  have q := h r hr
  unfold oe at e ⊢
  by_cases c : A r = a
  · rw [if_pos c] at e
    rw [if_neg (by omega), if_pos e]; exact c
  · rw [if_neg c] at e
    by_cases c2 : B r = a
    · rw [if_pos c2] at e
      rw [if_pos e]; exact c2
    · rw [if_neg c2] at e; exact absurd e.symm hb
theorem sm_zero {f : Nat → Int} : ∀ {n : Nat}, (∀ i, i < n → f i = 0) → sm f n = 0
  | 0, _ => rfl
  | n + 1, h => by
    unfold sm
    rw [sm_zero (fun i hi => h i (by omega)), h n (by omega)]; rfl
/-- what holds once the first k of the row are done -/
def BI (A B : Nat → Int) (ok : Nat → Bool) (m P k : Nat) (S : ST) : Prop :=
  ((1 ≤ S.2.2 ∧ S.2.2 = sm (fun b => bz (¬ S.1 b = -1)) P) ∧
  (∀ i : Nat, (i : Int) < S.2.2 → (0 ≤ S.2.1 i ∧ S.2.1 i < P) ∧ 0 ≤ S.1 (S.2.1 i).toNat ∧ S.1 (S.2.1 i).toNat ≤ i)) ∧
  (∀ b : Nat, b < P → S.1 b = -1 ∨ ∃ i : Nat, (i : Int) < S.2.2 ∧ S.2.1 i = b) ∧
  (∀ i j : Nat, i < j → (j : Int) < S.2.2 → ¬ S.2.1 i = S.2.1 j ∧ S.1 (S.2.1 i).toNat ≤ S.1 (S.2.1 j).toNat) ∧
  (∀ j : Nat, (k : Int) < S.2.2 → (j : Int) < S.2.2 → S.1 (S.2.1 j).toNat ≤ S.1 (S.2.1 k).toNat + 1) ∧
  (∀ i r : Nat, i < k → (i : Int) < S.2.2 → r < m → ok r = true → ¬ oe A B r (S.2.1 i) = -1 → 0 ≤ S.1 (oe A B r (S.2.1 i)).toNat ∧ S.1 (oe A B r (S.2.1 i)).toNat ≤ S.1 (S.2.1 i).toNat + 1) ∧
  (∀ i : Nat, 0 < i → (i : Int) < S.2.2 → ∃ j r : Nat, j < i ∧ r < m ∧ ok r = true ∧ oe A B r (S.2.1 j) = S.2.1 i ∧ S.1 (S.2.1 i).toNat = S.1 (S.2.1 j).toNat + 1)
/-- and the first r roads of the k-th -/
def BJ (A B : Nat → Int) (ok : Nat → Bool) (m P k : Nat) (h : Int) (r : Nat) (S : ST) : Prop :=
  BI A B ok m P k S ∧ ((k : Int) < S.2.2 ∧ S.2.1 k = h) ∧ ∀ q : Nat, q < r → ok q = true → ¬ oe A B q h = -1 → 0 ≤ S.1 (oe A B q h).toNat ∧ S.1 (oe A B q h).toNat ≤ S.1 h.toNat + 1
theorem sm_cnt {f : Nat → Int} {P k : Nat} {v : Int} (hk : k < P) (h1 : f k = -1) (h2 : ¬ v = -1) : sm (fun b => bz (¬ ud f k v b = -1)) P = sm (fun b => bz (¬ f b = -1)) P + 1 := by
  rw [sm_set (f := fun b => bz (¬ f b = -1)) (k := k) hk (fun i _ hn => by rw [ud_ne hn])]
  rw [ud_eq, bz_f (fun q => q h1), bz_t h2]; omega
theorem sm_bzle {c : Nat → Prop} [DecidablePred c] (P : Nat) : 0 ≤ sm (fun b => bz (c b)) P ∧ sm (fun b => bz (c b)) P ≤ P := sm_nn (fun i _ => bz_b _)
theorem BI_le {A B : Nat → Int} {ok : Nat → Bool} {m P k : Nat} {S : ST} (h : BI A B ok m P k S) : 1 ≤ S.2.2 ∧ S.2.2 ≤ P := by
  have a := h.1.1
  have b := sm_bzle (c := fun b => ¬ S.1 b = -1) P
  omega
theorem BJ_step {A B : Nat → Int} {ok : Nat → Bool} {m P k : Nat} {h : Int} {r : Nat} {S : ST} (hv : NV A B m P) (hr : r < m) (H : BJ A B ok m P k h r S) : BJ A B ok m P k h (r + 1) (bst A B ok h r S) := by
  have H0 := H
  obtain ⟨⟨⟨c1, c2⟩, c3, c4, c5, c6, c7⟩, ⟨hk, hh⟩, hp⟩ := H
  obtain ⟨st, ro, n⟩ := S
  dsimp only at *
  have hrk := c2 k hk
  rw [hh] at hrk
  unfold bst
  by_cases c : ¬ oe A B r h = -1 ∧ st (oe A B r h).toNat = -1 ∧ ok r = true
  · rw [if_pos c]
    obtain ⟨e1, e2, e3⟩ := c
    have hb := oe_in hv hr hrk.1.1 e1
    generalize hbb : oe A B r h = b at *
    have nb : ∀ i : Nat, (i : Int) < n → ¬ (ro i).toNat = b.toNat := fun i hi q => by
      have := c2 i hi
      rw [q] at this
      omega
    have nr : ∀ i : Nat, (i : Int) < n → ud ro n.toNat b i = ro i := fun i hi => ud_ne (by omega)
    have ns : ∀ i : Nat, (i : Int) < n → ud st b.toNat (st h.toNat + 1) (ro i).toNat = st (ro i).toNat := fun i hi => ud_ne (nb i hi)
    have nn_ : ud ro n.toNat b n.toNat = b := ud_eq
    have sb : ud st b.toNat (st h.toNat + 1) b.toNat = st h.toNat + 1 := ud_eq
    have sh : ud st b.toNat (st h.toNat + 1) h.toNat = st h.toNat := by
      have q := ns k hk
      rw [hh] at q
      exact q
    have eN : ∀ i : Nat, (i : Int) < n + 1 → ¬ (i : Int) < n → i = n.toNat := fun i h1 h2 => by omega
    have ne2 : ∀ x : Int, 0 ≤ st x.toNat → ud st b.toNat (st h.toNat + 1) x.toNat = st x.toNat := fun x hx => ud_ne (fun q => by rw [q, e2] at hx; omega)
    refine ⟨⟨⟨⟨by show 1 ≤ n + 1; omega, ?_⟩, ?_⟩, ?_, ?_, ?_, ?_, ?_⟩, ⟨by show (k : Int) < n + 1; omega, by show ud ro n.toNat b k = h; rw [nr k hk]; exact hh⟩, ?_⟩
    · show n + 1 = sm (fun b' => bz (¬ ud st b.toNat (st h.toNat + 1) b' = -1)) P
      rw [sm_cnt (by omega) e2 (by omega), ← c1.2]
    · intro i hi
      show (0 ≤ ud ro n.toNat b i ∧ ud ro n.toNat b i < P) ∧ 0 ≤ ud st b.toNat (st h.toNat + 1) (ud ro n.toNat b i).toNat ∧ ud st b.toNat (st h.toNat + 1) (ud ro n.toNat b i).toNat ≤ i
      by_cases g : (i : Int) < n
      · rw [nr i g, ns i g]; exact c2 i g
      · have := eN i hi g
        subst this
        rw [nn_, sb]
        omega
    · intro b' hb'
      show ud st b.toNat (st h.toNat + 1) b' = -1 ∨ ∃ i : Nat, (i : Int) < n + 1 ∧ ud ro n.toNat b i = b'
      by_cases g : b' = b.toNat
      · refine Or.inr ⟨n.toNat, by omega, ?_⟩
        rw [nn_]; omega
      · rcases c3 b' hb' with q | ⟨i, q1, q2⟩
        · exact Or.inl ((ud_ne g).trans q)
        · exact Or.inr ⟨i, by omega, by rw [nr i q1]; exact q2⟩
    · intro i j hij hj
      show ¬ ud ro n.toNat b i = ud ro n.toNat b j ∧ ud st b.toNat (st h.toNat + 1) (ud ro n.toNat b i).toNat ≤ ud st b.toNat (st h.toNat + 1) (ud ro n.toNat b j).toNat
      have hi : (i : Int) < n := by have : (j : Int) < n + 1 := hj
                                    omega
      by_cases g : (j : Int) < n
      · rw [nr i hi, nr j g, ns i hi, ns j g]; exact c4 i j hij g
      · have := eN j hj g
        subst this
        rw [nr i hi, nn_, ns i hi, sb]
        refine ⟨fun q => nb i hi (by rw [q]), ?_⟩
        have := c5 i hk hi
        rw [hh] at this
        exact this
    · intro j _ hj
      show ud st b.toNat (st h.toNat + 1) (ud ro n.toNat b j).toNat ≤ ud st b.toNat (st h.toNat + 1) (ud ro n.toNat b k).toNat + 1
      rw [nr k hk, ns k hk, hh]
      by_cases g : (j : Int) < n
      · rw [nr j g, ns j g]
        have := c5 j hk g
        rw [hh] at this
        exact this
      · have := eN j hj g
        subst this
        rw [nn_, sb]
        omega
    · intro i q hi hi2 hq hok ho
      have hi3 : (i : Int) < n := by omega
      have ho : ¬ oe A B q (ud ro n.toNat b i) = -1 := ho
      show 0 ≤ ud st b.toNat (st h.toNat + 1) (oe A B q (ud ro n.toNat b i)).toNat ∧ ud st b.toNat (st h.toNat + 1) (oe A B q (ud ro n.toNat b i)).toNat ≤ ud st b.toNat (st h.toNat + 1) (ud ro n.toNat b i).toNat + 1
      rw [nr i hi3] at ho ⊢
      have := c6 i q hi hi3 hq hok ho
      rw [ns i hi3, ne2 _ this.1]
      exact this
    · intro i hi hi2
      by_cases g : (i : Int) < n
      · obtain ⟨j, q, q1, q2, q3, q4, q5⟩ := c7 i hi g
        have hj : (j : Int) < n := by omega
        refine ⟨j, q, q1, q2, q3, ?_, ?_⟩
        · show oe A B q (ud ro n.toNat b j) = ud ro n.toNat b i
          rw [nr i g, nr j hj]; exact q4
        · show ud st b.toNat (st h.toNat + 1) (ud ro n.toNat b i).toNat = ud st b.toNat (st h.toNat + 1) (ud ro n.toNat b j).toNat + 1
          rw [nr i g, nr j hj, ns i g, ns j hj]; exact q5
      · have := eN i hi2 g
        subst this
        refine ⟨k, r, by omega, hr, e3, ?_, ?_⟩
        · show oe A B r (ud ro n.toNat b k) = ud ro n.toNat b n.toNat
          rw [nr k hk, nn_, hh]; exact hbb
        · show ud st b.toNat (st h.toNat + 1) (ud ro n.toNat b n.toNat).toNat = ud st b.toNat (st h.toNat + 1) (ud ro n.toNat b k).toNat + 1
          rw [nr k hk, nn_, sb, hh, sh]
    · intro q hq hok ho
      show 0 ≤ ud st b.toNat (st h.toNat + 1) (oe A B q h).toNat ∧ ud st b.toNat (st h.toNat + 1) (oe A B q h).toNat ≤ ud st b.toNat (st h.toNat + 1) h.toNat + 1
      rw [sh]
      by_cases g : q = r
      · subst g
        rw [hbb, sb]; omega
      · have := hp q (by omega) hok ho
        rw [ne2 _ this.1]
        exact this
  · rw [if_neg c]
    refine ⟨H0.1, H0.2.1, ?_⟩
    intro q hq hok ho
    by_cases g : q = r
    · subst g
      have hb := oe_in hv hr hrk.1.1 ho
      have e2 : ¬ st (oe A B q h).toNat = -1 := fun w => c ⟨ho, w, hok⟩
      rcases c3 (oe A B q h).toNat (by omega) with w | ⟨i, q1, q2⟩
      · exact absurd w e2
      · have w1 := c2 i q1
        have w2 := c5 i hk q1
        rw [q2, hh] at w2
        rw [q2] at w1
        simp only [Int.toNat_natCast] at w1 w2
        exact ⟨w1.2.1, w2⟩
    · exact hp q (by omega) hok ho
theorem BI_step {A B : Nat → Int} {ok : Nat → Bool} {m P k : Nat} {S : ST} (hv : NV A B m P) (H : BI A B ok m P k S) : BI A B ok m P (k + 1) (bfo A B ok m k S) := by
  unfold bfo
  by_cases hk : (k : Int) < S.2.2
  · rw [if_pos hk]
    have hj : ∀ r, r ≤ m → BJ A B ok m P k (S.2.1 k) r (itr (bst A B ok (S.2.1 k)) r S) := by
      intro r
      induction r with
      | zero => intro _; exact ⟨H, ⟨hk, rfl⟩, fun q hq => absurd hq (Nat.not_lt_zero _)⟩
      | succ r ih => intro hr; exact BJ_step hv (by omega) (ih (by omega))
    obtain ⟨⟨c12, c3, c4, c5, c6, c7⟩, ⟨hk2, hh⟩, hp⟩ := hj m (Nat.le_refl _)
    generalize itr (bst A B ok (S.2.1 k)) m S = Q at *
    refine ⟨c12, c3, c4, ?_, ?_, c7⟩
    · intro j h1 h2
      have a := c5 j hk2 h2
      have b := c4 k (k + 1) (by omega) h1
      omega
    · intro i r hi hi2 hr hok ho
      by_cases g : i = k
      · subst g
        rw [hh] at ho ⊢
        exact hp r hr hok ho
      · exact c6 i r (by omega) hi2 hr hok ho
  · rw [if_neg hk]
    obtain ⟨c12, c3, c4, c5, c6, c7⟩ := H
    refine ⟨c12, c3, c4, ?_, ?_, c7⟩
    · intro j h1; omega
    · intro i r hi hi2; exact c6 i r (by omega) hi2
theorem BI_0 {A B : Nat → Int} {ok : Nat → Bool} {m P : Nat} {f g : Nat → Int} {a : Int} (hf : ∀ b, b < P → f b = -1) (ha : 0 ≤ a ∧ a < P) : BI A B ok m P 0 (bf0 f g a) := by
  have s0 : ud f a.toNat 0 a.toNat = 0 := ud_eq
  have r0 : ud g 0 a 0 = a := ud_eq
  have e0 : ∀ i : Nat, (i : Int) < 1 → i = 0 := fun i h => by omega
  refine ⟨⟨⟨Int.le_refl _, ?_⟩, ?_⟩, ?_, ?_, ?_, ?_, ?_⟩
  · show (1 : Int) = sm (fun b => bz (¬ ud f a.toNat 0 b = -1)) P
    rw [sm_cnt (by omega) (hf _ (by omega)) (by omega), sm_zero (fun i hi => by rw [hf i hi]; rfl)]; rfl
  · intro i hi
    have := e0 i hi
    subst this
    show (0 ≤ ud g 0 a 0 ∧ ud g 0 a 0 < P) ∧ 0 ≤ ud f a.toNat 0 (ud g 0 a 0).toNat ∧ ud f a.toNat 0 (ud g 0 a 0).toNat ≤ (0 : Nat)
    rw [r0, s0]; omega
  · intro b hb
    show ud f a.toNat 0 b = -1 ∨ ∃ i : Nat, (i : Int) < 1 ∧ ud g 0 a i = b
    by_cases c : b = a.toNat
    · exact Or.inr ⟨0, by omega, by rw [r0]; omega⟩
    · exact Or.inl ((ud_ne c).trans (hf b hb))
  · intro i j hij hj
    have hj : (j : Int) < 1 := hj
    omega
  · intro j h1 hj
    have := e0 j hj
    subst this
    omega
  · intro i r hi; omega
  · intro i hi hi2
    have hi2 : (i : Int) < 1 := hi2
    omega
theorem BI_all {A B : Nat → Int} {ok : Nat → Bool} {m P : Nat} {f g : Nat → Int} {a : Int} (hv : NV A B m P) (hf : ∀ b, b < P → f b = -1) (ha : 0 ≤ a ∧ a < P) : ∀ k, BI A B ok m P k (itr (bfo A B ok m) k (bf0 f g a))
  | 0 => BI_0 hf ha
  | k + 1 => BI_step hv (BI_all hv hf ha k)
/-- while the k-th is worked on, it stays, and so does how far it is -/
theorem bst_itr {A B : Nat → Int} {ok : Nat → Bool} {m P k : Nat} {S : ST} (hv : NV A B m P) (H : BI A B ok m P k S) (hk : (k : Int) < S.2.2) {r : Nat} (hr : r ≤ m) : BJ A B ok m P k (S.2.1 k) r (itr (bst A B ok (S.2.1 k)) r S) := by
  induction r with
  | zero => exact ⟨H, ⟨hk, rfl⟩, fun q hq => absurd hq (Nat.not_lt_zero _)⟩
  | succ r ih => exact BJ_step hv (by omega) (ih (by omega))
/-- walks that begin alike -/
def BE (P : Nat) (S S' : ST) : Prop := (∀ b, b < P → S.1 b = S'.1 b) ∧ S.2.2 = S'.2.2 ∧ ∀ i : Nat, (i : Int) < S.2.2 → S.2.1 i = S'.2.1 i
theorem BE_step {A B : Nat → Int} {ok : Nat → Bool} {m P : Nat} {h : Int} {r : Nat} {S S' : ST} (hv : NV A B m P) (hr : r < m) (hh : 0 ≤ h ∧ h < P) (hn : 0 ≤ S.2.2) (H : BE P S S') : BE P (bst A B ok h r S) (bst A B ok h r S') ∧ 0 ≤ (bst A B ok h r S).2.2 := by
  obtain ⟨st, ro, n⟩ := S
  obtain ⟨st', ro', n'⟩ := S'
  obtain ⟨h1, h2, h3⟩ := H
  have h2 : n = n' := h2
  subst h2
  have hn : 0 ≤ n := hn
  have h1 : ∀ b, b < P → st b = st' b := h1
  have h3 : ∀ i : Nat, (i : Int) < n → ro i = ro' i := h3
  unfold bst
  dsimp only
  by_cases e : oe A B r h = -1
  · rw [if_neg (fun q => q.1 e), if_neg (fun q => q.1 e)]; exact ⟨⟨h1, rfl, h3⟩, hn⟩
  · have hb := oe_in hv hr hh.1 e
    have e1 := h1 (oe A B r h).toNat (by omega)
    have e2 := h1 h.toNat (by omega)
    by_cases c : ¬ oe A B r h = -1 ∧ st (oe A B r h).toNat = -1 ∧ ok r = true
    · rw [if_pos c, if_pos (by rw [← e1]; exact c)]
      refine ⟨⟨fun b hb' => ?_, rfl, fun i hi => ?_⟩, by show 0 ≤ n + 1; omega⟩
      · show ud st _ _ b = ud st' _ _ b
        unfold ud
        rw [e2, h1 b hb']
      · show ud ro _ _ i = ud ro' _ _ i
        have hi : (i : Int) < n + 1 := hi
        unfold ud
        split
        · rfl
        · exact h3 i (by omega)
    · rw [if_neg c, if_neg (by rw [← e1]; exact c)]; exact ⟨⟨h1, rfl, h3⟩, hn⟩
theorem BE_bfs {A B : Nat → Int} {ok : Nat → Bool} {m P : Nat} {f g f' g' : Nat → Int} {a : Int} (hv : NV A B m P) (hf : ∀ b, b < P → f b = -1) (hf' : ∀ b, b < P → f' b = -1) (ha : 0 ≤ a ∧ a < P) : ∀ k, BE P (itr (bfo A B ok m) k (bf0 f g a)) (itr (bfo A B ok m) k (bf0 f' g' a))
  | 0 => by
    refine ⟨fun b hb => ?_, rfl, fun i hi => ?_⟩
    · show ud f _ _ b = ud f' _ _ b
      unfold ud
      rw [hf b hb, hf' b hb]
    · have hi : (i : Int) < 1 := hi
      have : i = 0 := by omega
      subst this
      show ud g 0 a 0 = ud g' 0 a 0
      rw [ud_eq, ud_eq]
  | k + 1 => by
    have ih := BE_bfs (A := A) (B := B) (ok := ok) (m := m) (g := g) (g' := g') hv hf hf' ha k
    have hi := BI_all (A := A) (B := B) (ok := ok) (m := m) (g := g) hv hf ha k
    have hle := BI_le hi
    show BE P (bfo A B ok m k (itr (bfo A B ok m) k (bf0 f g a))) (bfo A B ok m k (itr (bfo A B ok m) k (bf0 f' g' a)))
    generalize itr (bfo A B ok m) k (bf0 f g a) = S at *
    generalize itr (bfo A B ok m) k (bf0 f' g' a) = S' at *
    unfold bfo
    by_cases c : (k : Int) < S.2.2
    · rw [if_pos c, if_pos (by rw [← ih.2.1]; exact c), ← ih.2.2 k c]
      have hh := (hi.1.2 k c).1
      have hm : ∀ r, r ≤ m → BE P (itr (bst A B ok (S.2.1 k)) r S) (itr (bst A B ok (S.2.1 k)) r S') ∧ 0 ≤ (itr (bst A B ok (S.2.1 k)) r S).2.2 := by
        intro r
        induction r with
        | zero => intro _; exact ⟨ih, by show 0 ≤ S.2.2; omega⟩
        | succ r ih2 => intro hr; exact BE_step hv (by omega) hh (ih2 (by omega)).2 (ih2 (by omega)).1
      exact (hm m (Nat.le_refl _)).1
    · rw [if_neg c, if_neg (by rw [← ih.2.1]; exact c)]; exact ih
/-- there is a way of so many open roads -/
def Wk (A B : Nat → Int) (ok : Nat → Bool) (m : Nat) : Nat → Int → Int → Prop
  | 0, x, y => x = y
  | n + 1, x, y => ∃ r w, r < m ∧ ok r = true ∧ ¬ w = -1 ∧ oe A B r x = w ∧ Wk A B ok m n w y
theorem Wk_end {A B : Nat → Int} {ok : Nat → Bool} {m : Nat} : ∀ {n : Nat} {x y w : Int} {r : Nat}, Wk A B ok m n x y → r < m → ok r = true → ¬ w = -1 → oe A B r y = w → Wk A B ok m (n + 1) x w
  | 0, x, y, w, r, h, h1, h2, h3, h4 => by
    have h : x = y := h
    subst h
    exact ⟨r, w, h1, h2, h3, h4, rfl⟩
  | n + 1, x, y, w, r, ⟨q, u, a1, a2, a3, a4, a5⟩, h1, h2, h3, h4 => ⟨q, u, a1, a2, a3, a4, Wk_end a5 h1 h2 h3 h4⟩
theorem Wk_rev {A B : Nat → Int} {ok : Nat → Bool} {m P : Nat} (hv : NV A B m P) : ∀ {n : Nat} {x y : Int}, 0 ≤ x → Wk A B ok m n x y → Wk A B ok m n y x
  | 0, x, y, _, h => Eq.symm h
  | n + 1, x, y, hx, ⟨r, w, a1, a2, a3, a4, a5⟩ => by
    have hw := oe_in hv a1 hx (by rw [a4]; exact a3)
    rw [a4] at hw
    exact Wk_end (Wk_rev hv hw.1 a5) a1 a2 (by omega) (oe_sym hv a1 hx a4 a3)
/-- how far: what a walk from a has found -/
theorem bfs_far {A B : Nat → Int} {ok : Nat → Bool} {m P : Nat} {f g : Nat → Int} {a : Int} (hv : NV A B m P) (hf : ∀ b, b < P → f b = -1) (ha : 0 ≤ a ∧ a < P) (n : Nat) (b : Int) (hb : 0 ≤ b ∧ b < P) : (Wk A B ok m n a b → 0 ≤ (bfs A B ok m P f g a).1 b.toNat ∧ (bfs A B ok m P f g a).1 b.toNat ≤ n) ∧ ((bfs A B ok m P f g a).1 b.toNat = n → Wk A B ok m n a b) := by
  have H := BI_all (A := A) (B := B) (ok := ok) (m := m) (g := g) hv hf ha P
  have hle := BI_le H
  have hz : ∀ k, ((0 : Nat) : Int) < (itr (bfo A B ok m) k (bf0 f g a)).2.2 ∧ (itr (bfo A B ok m) k (bf0 f g a)).2.1 0 = a := by
    intro k
    induction k with
    | zero => exact ⟨by show (0 : Int) < 1; omega, by show ud g 0 a 0 = a; exact ud_eq⟩
    | succ k ih =>
      have Hk := BI_all (A := A) (B := B) (ok := ok) (m := m) (g := g) hv hf ha k
      show ((0 : Nat) : Int) < (bfo A B ok m k _).2.2 ∧ (bfo A B ok m k _).2.1 0 = a
      generalize itr (bfo A B ok m) k (bf0 f g a) = S at *
      unfold bfo
      by_cases c : (k : Int) < S.2.2
      · rw [if_pos c]
        have hr : ∀ r, r ≤ m → ((0 : Nat) : Int) < (itr (bst A B ok (S.2.1 k)) r S).2.2 ∧ (itr (bst A B ok (S.2.1 k)) r S).2.1 0 = a := by
          intro r
          induction r with
          | zero => intro _; exact ih
          | succ r ih2 =>
            intro hr
            have i2 := ih2 (by omega)
            show ((0 : Nat) : Int) < (bst A B ok (S.2.1 k) r _).2.2 ∧ (bst A B ok (S.2.1 k) r _).2.1 0 = a
            generalize itr (bst A B ok (S.2.1 k)) r S = Q at *
            unfold bst
            split
            · refine ⟨by show (0 : Int) < Q.2.2 + 1; omega, ?_⟩
              show ud Q.2.1 Q.2.2.toNat _ 0 = a
              rw [ud_ne (by omega)]
              exact i2.2
            · exact i2
        exact hr m (Nat.le_refl _)
      · rw [if_neg c]; exact ih
  have z0 := hz P
  show (Wk A B ok m n a b → 0 ≤ (itr (bfo A B ok m) P (bf0 f g a)).1 b.toNat ∧ (itr (bfo A B ok m) P (bf0 f g a)).1 b.toNat ≤ n) ∧ ((itr (bfo A B ok m) P (bf0 f g a)).1 b.toNat = n → Wk A B ok m n a b)
  generalize itr (bfo A B ok m) P (bf0 f g a) = S at *
  obtain ⟨⟨c1, c2⟩, c3, c4, c5, c6, c7⟩ := H
  have at0 := c2 0 z0.1
  rw [z0.2] at at0
  constructor
  · -- along a way, steps grow by one at most
    have key : ∀ (n : Nat) (x : Int), 0 ≤ x ∧ x < P → 0 ≤ S.1 x.toNat → Wk A B ok m n x b → 0 ≤ S.1 b.toNat ∧ S.1 b.toNat ≤ S.1 x.toNat + n := by
      intro n
      induction n with
      | zero =>
        intro x hx h0 h
        have h : x = b := h
        subst h
        omega
      | succ n ih =>
        intro x hx h0 h
        obtain ⟨r, w, a1, a2, a3, a4, a5⟩ := h
        have hw := oe_in hv a1 hx.1 (by rw [a4]; exact a3)
        rw [a4] at hw
        rcases c3 x.toNat (by omega) with q | ⟨i, q1, q2⟩
        · omega
        · have e : S.2.1 i = x := by omega
          have := c6 i r (by omega) q1 a1 a2 (by rw [e, a4]; exact a3)
          rw [e, a4] at this
          have := ih w (by omega) this.1 a5
          omega
    intro h
    have := key n a ha (by omega) h
    have e0 : S.1 a.toNat = 0 := by omega
    omega
  · -- and back by the ways that were gone
    have key : ∀ (n i : Nat), (i : Int) < S.2.2 → S.1 (S.2.1 i).toNat = n → Wk A B ok m n a (S.2.1 i) := by
      intro n
      induction n with
      | zero =>
        intro i hi h
        by_cases g : i = 0
        · subst g; exact z0.2.symm
        · obtain ⟨j, r, q1, q2, q3, q4, q5⟩ := c7 i (by omega) hi
          have := c2 j (by omega)
          omega
      | succ n ih =>
        intro i hi h
        by_cases g : i = 0
        · subst g
          have := (c2 0 hi).2.2
          omega
        · obtain ⟨j, r, q1, q2, q3, q4, q5⟩ := c7 i (by omega) hi
          have hj : (j : Int) < S.2.2 := by omega
          have := c2 i hi
          exact Wk_end (ih j hj (by omega)) q2 q3 (by omega) q4
    intro h
    rcases c3 b.toNat (by omega) with q | ⟨i, q1, q2⟩
    · omega
    · have e : S.2.1 i = b := by omega
      have := key n i q1 (by rw [e]; exact h)
      rw [e] at this
      exact this
theorem bfs_sym {A B : Nat → Int} {ok : Nat → Bool} {m P : Nat} {f g f' g' : Nat → Int} {a b : Int} (hv : NV A B m P) (hf : ∀ b, b < P → f b = -1) (hf' : ∀ b, b < P → f' b = -1) (ha : 0 ≤ a ∧ a < P) (hb : 0 ≤ b ∧ b < P) (h : 0 ≤ (bfs A B ok m P f g a).1 b.toNat) : 0 ≤ (bfs A B ok m P f' g' b).1 a.toNat ∧ (bfs A B ok m P f' g' b).1 a.toNat ≤ (bfs A B ok m P f g a).1 b.toNat := by
  have w := (bfs_far (ok := ok) (g := g) hv hf ha ((bfs A B ok m P f g a).1 b.toNat).toNat b hb).2 (by omega)
  have v := (bfs_far (ok := ok) (g := g') hv hf' hb ((bfs A B ok m P f g a).1 b.toNat).toNat a ha).1 (Wk_rev hv ha.1 w)
  omega

