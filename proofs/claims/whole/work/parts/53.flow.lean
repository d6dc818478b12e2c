/-! ways that share no road: how one more is looked for, and what it changes -/
def cg (fw A : Nat → Int) (r : Nat) (h : Int) : Prop := (A r = h ∧ fw r < 1) ∨ (¬ A r = h ∧ -1 < fw r)
def cgb (fw A : Nat → Int) (r : Nat) (h : Int) : Bool := if A r = h then decide (fw r < 1) else decide (-1 < fw r)
theorem cgb_iff {fw A : Nat → Int} {r : Nat} {h : Int} : cgb fw A r h = true ↔ cg fw A r h := by
  unfold cgb cg
  by_cases c : A r = h
  · rw [if_pos c]; simp [c]
  · rw [if_neg c]; simp [c]
def fss (A B fw : Nat → Int) (a h : Int) (r : Nat) (S : ST) : ST :=
  if ¬ oe A B r h = -1 ∧ ¬ oe A B r h = a ∧ S.1 (oe A B r h).toNat = -1 ∧ cgb fw A r h = true then (ud S.1 (oe A B r h).toNat r, ud S.2.1 S.2.2.toNat (oe A B r h), S.2.2 + 1) else S
def ffo (A B fw : Nat → Int) (a t : Int) (m : Nat) (k : Nat) (S : ST) : ST := if (k : Int) < S.2.2 ∧ S.1 t.toNat = -1 then itr (fss A B fw a (S.2.1 k)) m S else S
def fs0 (f g : Nat → Int) (a : Int) : ST := (f, ud g 0 a, 1)
def FS (A B fw : Nat → Int) (a t : Int) (m P : Nat) (f g : Nat → Int) : ST := itr (ffo A B fw a t m) P (fs0 f g a)
/-- what holds of the search -/
def FI (A B fw : Nat → Int) (a : Int) (m P : Nat) (S : ST) : Prop :=
  ((1 ≤ S.2.2 ∧ S.2.2 = sm (fun b => bz (¬ S.1 b = -1)) P + 1) ∧ S.2.1 0 = a ∧ S.1 a.toNat = -1) ∧
  (∀ i : Nat, (i : Int) < S.2.2 → 0 ≤ S.2.1 i ∧ S.2.1 i < P) ∧
  (∀ b : Nat, b < P → S.1 b = -1 ∨ (0 ≤ S.1 b ∧ S.1 b < m) ∧ ∃ i : Nat, 0 < i ∧ (i : Int) < S.2.2 ∧ S.2.1 i = b) ∧
  (∀ i j : Nat, i < j → (j : Int) < S.2.2 → ¬ S.2.1 i = S.2.1 j) ∧
  (∀ i : Nat, 0 < i → (i : Int) < S.2.2 → (0 ≤ S.1 (S.2.1 i).toNat ∧ S.1 (S.2.1 i).toNat < m) ∧ ∃ j : Nat, j < i ∧ oe A B (S.1 (S.2.1 i).toNat).toNat (S.2.1 i) = S.2.1 j ∧ cg fw A (S.1 (S.2.1 i).toNat).toNat (S.2.1 j))
theorem FI_le {A B fw : Nat → Int} {a : Int} {m P : Nat} {S : ST} (ha : 0 ≤ a ∧ a < P) (H : FI A B fw a m P S) : 1 ≤ S.2.2 ∧ S.2.2 ≤ P := by
  have h1 := H.1.1
  have h2 := H.1.2.2
  have e := sm_cnt (f := S.1) (k := a.toNat) (v := 0) (P := P) (by omega) h2 (by omega)
  have w := sm_bzle (c := fun b => ¬ ud S.1 a.toNat 0 b = -1) P
  omega
theorem FI_step {A B fw : Nat → Int} {a h : Int} {m P r k : Nat} {S : ST} (hv : NV A B m P) (ha : 0 ≤ a ∧ a < P) (hr : r < m) (hk : (k : Int) < S.2.2 ∧ S.2.1 k = h) (H : FI A B fw a m P S) : FI A B fw a m P (fss A B fw a h r S) ∧ (k : Int) < (fss A B fw a h r S).2.2 ∧ (fss A B fw a h r S).2.1 k = h := by
  have H0 := H
  have hle := FI_le ha H
  obtain ⟨⟨c1, c2, c2b⟩, c3, c4, c5, c6⟩ := H
  obtain ⟨st, ro, n⟩ := S
  dsimp only at *
  have hrk := c3 k hk.1
  rw [hk.2] at hrk
  unfold fss
  by_cases c : ¬ oe A B r h = -1 ∧ ¬ oe A B r h = a ∧ st (oe A B r h).toNat = -1 ∧ cgb fw A r h = true
  · rw [if_pos c]
    obtain ⟨e1, e2, e3, e4⟩ := c
    have hb := oe_in hv hr hrk.1 e1
    have hs := oe_sym hv hr hrk.1 (b := oe A B r h) rfl e1
    generalize hbb : oe A B r h = b at *
    have nb : ∀ i : Nat, (i : Int) < n → ¬ ro i = b := fun i hi q => by
      by_cases g : i = 0
      · subst g; rw [c2] at q; exact e2 q.symm
      · have := c6 i (by omega) hi
        rw [q, e3] at this
        omega
    have nbt : ∀ i : Nat, (i : Int) < n → ¬ (ro i).toNat = b.toNat := fun i hi q => nb i hi (by have := c3 i hi; omega)
    have nr : ∀ i : Nat, (i : Int) < n → ud ro n.toNat b i = ro i := fun i hi => ud_ne (by omega)
    have ns : ∀ i : Nat, (i : Int) < n → ud st b.toNat r (ro i).toNat = st (ro i).toNat := fun i hi => ud_ne (nbt i hi)
    have nn_ : ud ro n.toNat b n.toNat = b := ud_eq
    have sb : ud st b.toNat r b.toNat = r := ud_eq
    have eN : ∀ i : Nat, (i : Int) < n + 1 → ¬ (i : Int) < n → i = n.toNat := fun i h1 h2 => by omega
    refine ⟨⟨⟨⟨by show 1 ≤ n + 1; omega, ?_⟩, ?_, ?_⟩, ?_, ?_, ?_, ?_⟩, by show (k : Int) < n + 1; omega, by show ud ro n.toNat b k = h; rw [nr k hk.1]; exact hk.2⟩
    · show n + 1 = sm (fun b' => bz (¬ ud st b.toNat r b' = -1)) P + 1
      rw [sm_cnt (by omega) e3 (by omega)]; omega
    · show ud ro n.toNat b 0 = a
      rw [nr 0 (by omega)]; exact c2
    · show ud st b.toNat r a.toNat = -1
      rw [ud_ne (by omega)]; exact c2b
    · intro i hi
      show 0 ≤ ud ro n.toNat b i ∧ ud ro n.toNat b i < P
      by_cases g : (i : Int) < n
      · rw [nr i g]; exact c3 i g
      · rw [eN i hi g, nn_]; omega
    · intro b' hb'
      show ud st b.toNat r b' = -1 ∨ (0 ≤ ud st b.toNat r b' ∧ ud st b.toNat r b' < m) ∧ ∃ i : Nat, 0 < i ∧ (i : Int) < n + 1 ∧ ud ro n.toNat b i = b'
      by_cases g : b' = b.toNat
      · subst g
        rw [sb]
        refine Or.inr ⟨by omega, n.toNat, by omega, by omega, ?_⟩
        rw [nn_]; omega
      · rw [ud_ne g]
        rcases c4 b' hb' with q | ⟨q1, i, q2, q3, q4⟩
        · exact Or.inl q
        · exact Or.inr ⟨q1, i, q2, by omega, by rw [nr i q3]; exact q4⟩
    · intro i j hij hj
      show ¬ ud ro n.toNat b i = ud ro n.toNat b j
      have hj' : (j : Int) < n + 1 := hj
      have hi : (i : Int) < n := by omega
      by_cases g : (j : Int) < n
      · rw [nr i hi, nr j g]; exact c5 i j hij g
      · rw [eN j hj g, nn_, nr i hi]; exact nb i hi
    · intro i hi hi2
      show (0 ≤ ud st b.toNat r (ud ro n.toNat b i).toNat ∧ ud st b.toNat r (ud ro n.toNat b i).toNat < m) ∧ ∃ j : Nat, j < i ∧ oe A B (ud st b.toNat r (ud ro n.toNat b i).toNat).toNat (ud ro n.toNat b i) = ud ro n.toNat b j ∧ cg fw A (ud st b.toNat r (ud ro n.toNat b i).toNat).toNat (ud ro n.toNat b j)
      by_cases g : (i : Int) < n
      · rw [nr i g, ns i g]
        obtain ⟨q1, j, q2, q3, q4⟩ := c6 i hi g
        exact ⟨q1, j, q2, by rw [nr j (by omega)]; exact ⟨q3, q4⟩⟩
      · have := eN i hi2 g
        subst this
        rw [nn_, sb]
        refine ⟨by omega, k, by omega, ?_⟩
        rw [nr k hk.1, hk.2]
        exact ⟨hs, cgb_iff.mp e4⟩
  · rw [if_neg c]
    exact ⟨H0, hk⟩
theorem FI_outer {A B fw : Nat → Int} {a t : Int} {m P k : Nat} {S : ST} (hv : NV A B m P) (ha : 0 ≤ a ∧ a < P) (H : FI A B fw a m P S) : FI A B fw a m P (ffo A B fw a t m k S) := by
  unfold ffo
  split
  · rename_i hk
    have hj : ∀ r, r ≤ m → FI A B fw a m P (itr (fss A B fw a (S.2.1 k)) r S) ∧ (k : Int) < (itr (fss A B fw a (S.2.1 k)) r S).2.2 ∧ (itr (fss A B fw a (S.2.1 k)) r S).2.1 k = S.2.1 k := by
      intro r
      induction r with
      | zero => intro _; exact ⟨H, hk.1, rfl⟩
      | succ r ih => intro hr; exact FI_step hv ha (by omega) (ih (by omega)).2 (ih (by omega)).1
    exact (hj m (Nat.le_refl _)).1
  · exact H
theorem FI_in {A B fw : Nat → Int} {a : Int} {m P k : Nat} {S : ST} (hv : NV A B m P) (ha : 0 ≤ a ∧ a < P) (H : FI A B fw a m P S) (hk : (k : Int) < S.2.2) : ∀ r, r ≤ m → FI A B fw a m P (itr (fss A B fw a (S.2.1 k)) r S) ∧ (k : Int) < (itr (fss A B fw a (S.2.1 k)) r S).2.2 ∧ (itr (fss A B fw a (S.2.1 k)) r S).2.1 k = S.2.1 k := by
  intro r
  induction r with
  | zero => intro _; exact ⟨H, hk, rfl⟩
  | succ r ih => intro hr; exact FI_step hv ha (by omega) (ih (by omega)).2 (ih (by omega)).1
theorem FI_0 {A B fw : Nat → Int} {a : Int} {m P : Nat} {f g : Nat → Int} (hf : ∀ b, b < P → f b = -1) (ha : 0 ≤ a ∧ a < P) : FI A B fw a m P (fs0 f g a) := by
  have r0 : ud g 0 a 0 = a := ud_eq
  refine ⟨⟨⟨Int.le_refl _, ?_⟩, r0, hf _ (by omega)⟩, ?_, ?_, ?_, ?_⟩
  · show (1 : Int) = sm (fun b => bz (¬ f b = -1)) P + 1
    rw [sm_zero (fun i hi => by rw [hf i hi]; rfl)]; rfl
  · intro i hi
    have hi : (i : Int) < 1 := hi
    have : i = 0 := by omega
    subst this
    show 0 ≤ ud g 0 a 0 ∧ ud g 0 a 0 < P
    rw [r0]; exact ha
  · intro b hb; exact Or.inl (hf b hb)
  · intro i j hij hj
    have hj : (j : Int) < 1 := hj
    omega
  · intro i hi hi2
    have hi2 : (i : Int) < 1 := hi2
    omega
theorem FI_all {A B fw : Nat → Int} {a t : Int} {m P : Nat} {f g : Nat → Int} (hv : NV A B m P) (hf : ∀ b, b < P → f b = -1) (ha : 0 ≤ a ∧ a < P) : ∀ k, FI A B fw a m P (itr (ffo A B fw a t m) k (fs0 f g a))
  | 0 => FI_0 hf ha
  | k + 1 => FI_outer hv ha (FI_all hv hf ha k)
/-- the search goes alike where it begins alike -/
theorem fss_cg {A B fw fw' : Nat → Int} {a h : Int} {m P r : Nat} {S S' : ST} (hv : NV A B m P) (hw : ∀ r, r < m → fw r = fw' r) (hr : r < m) (hh : 0 ≤ h ∧ h < P) (hn : 0 ≤ S.2.2) (H : BE P S S') : BE P (fss A B fw a h r S) (fss A B fw' a h r S') ∧ 0 ≤ (fss A B fw a h r S).2.2 := by
  obtain ⟨st, ro, n⟩ := S
  obtain ⟨st', ro', n'⟩ := S'
  obtain ⟨h1, h2, h3⟩ := H
  have h2 : n = n' := h2
  subst h2
  have hn : 0 ≤ n := hn
  have h1 : ∀ b, b < P → st b = st' b := h1
  have h3 : ∀ i : Nat, (i : Int) < n → ro i = ro' i := h3
  have hc : cgb fw A r h = cgb fw' A r h := by unfold cgb; rw [hw r hr]
  unfold fss
  dsimp only
  rw [hc]
  by_cases e : oe A B r h = -1
  · rw [if_neg (fun q => q.1 e), if_neg (fun q => q.1 e)]; exact ⟨⟨h1, rfl, h3⟩, hn⟩
  · have hb := oe_in hv hr hh.1 e
    have e1 := h1 (oe A B r h).toNat (by omega)
    by_cases c : ¬ oe A B r h = -1 ∧ ¬ oe A B r h = a ∧ st (oe A B r h).toNat = -1 ∧ cgb fw' A r h = true
    · rw [if_pos c, if_pos (by rw [← e1]; exact c)]
      refine ⟨⟨fun b hb' => ?_, rfl, fun i hi => ?_⟩, by show 0 ≤ n + 1; omega⟩
      · show ud st _ _ b = ud st' _ _ b
        unfold ud
        rw [h1 b hb']
      · show ud ro _ _ i = ud ro' _ _ i
        have hi : (i : Int) < n + 1 := hi
        unfold ud
        split
        · rfl
        · exact h3 i (by omega)
    · rw [if_neg c, if_neg (by rw [← e1]; exact c)]; exact ⟨⟨h1, rfl, h3⟩, hn⟩
theorem FS_cg {A B fw fw' : Nat → Int} {a t : Int} {m P : Nat} {f g f' g' : Nat → Int} (hv : NV A B m P) (hw : ∀ r, r < m → fw r = fw' r) (hf : ∀ b, b < P → f b = -1) (hf' : ∀ b, b < P → f' b = -1) (ha : 0 ≤ a ∧ a < P) (ht : 0 ≤ t ∧ t < P) : ∀ k, BE P (itr (ffo A B fw a t m) k (fs0 f g a)) (itr (ffo A B fw' a t m) k (fs0 f' g' a))
  | 0 => by
    refine ⟨fun b hb => (hf b hb).trans (hf' b hb).symm, rfl, fun i hi => ?_⟩
    have hi : (i : Int) < 1 := hi
    have : i = 0 := by omega
    subst this
    show ud g 0 a 0 = ud g' 0 a 0
    rw [ud_eq, ud_eq]
  | k + 1 => by
    have ih := FS_cg (A := A) (B := B) (m := m) (g := g) (g' := g') hv hw hf hf' ha ht k
    have hi := FI_all (A := A) (B := B) (fw := fw) (t := t) (m := m) (g := g) hv hf ha k
    have hle := FI_le ha hi
    show BE P (ffo A B fw a t m k (itr (ffo A B fw a t m) k (fs0 f g a))) (ffo A B fw' a t m k (itr (ffo A B fw' a t m) k (fs0 f' g' a)))
    generalize itr (ffo A B fw a t m) k (fs0 f g a) = S at *
    generalize itr (ffo A B fw' a t m) k (fs0 f' g' a) = S' at *
    have et := ih.1 t.toNat (by omega)
    unfold ffo
    by_cases c : (k : Int) < S.2.2 ∧ S.1 t.toNat = -1
    · rw [if_pos c, if_pos (by rw [← ih.2.1, ← et]; exact c), ← ih.2.2 k c.1]
      have hh := hi.2.1 k c.1
      have hm : ∀ r, r ≤ m → BE P (itr (fss A B fw a (S.2.1 k)) r S) (itr (fss A B fw' a (S.2.1 k)) r S') ∧ 0 ≤ (itr (fss A B fw a (S.2.1 k)) r S).2.2 := by
        intro r
        induction r with
        | zero => intro _; exact ⟨ih, by show 0 ≤ S.2.2; omega⟩
        | succ r ih2 => intro hr; exact fss_cg hv hw (by omega) hh (ih2 (by omega)).2 (ih2 (by omega)).1
      exact (hm m (Nat.le_refl _)).1
    · rw [if_neg c, if_neg (by rw [← ih.2.1, ← et]; exact c)]; exact ih
/-- one way more -/
def dr (B : Nat → Int) (r : Nat) (x : Int) : Int := if B r = x then 1 else -1
def AU (A B f : Nat → Int) (a : Int) : Nat → Int → (Nat → Int) → (Nat → Int)
  | 0, _, fw => fw
  | n + 1, x, fw => if x = a then fw else AU A B f a n (oe A B (f x.toNat).toNat x) (ud fw (f x.toNat).toNat (fw (f x.toNat).toNat + dr B (f x.toNat).toNat x))
def outf (A B : Nat → Int) (a : Int) (m : Nat) (fw : Nat → Int) : Int := sm (fun r => if A r = a then fw r else if B r = a then -fw r else 0) m
theorem outf_ud {A B fw : Nat → Int} {a v : Int} {m r : Nat} (hr : r < m) : outf A B a m (ud fw r v) = outf A B a m fw - (if A r = a then fw r else if B r = a then -fw r else 0) + (if A r = a then v else if B r = a then -v else 0) := by
  unfold outf
  rw [sm_set (f := fun r => if A r = a then fw r else if B r = a then -fw r else 0) (k := r) hr (fun i _ hn => by rw [ud_ne hn])]
  rw [ud_eq]
theorem AU_out {A B : Nat → Int} {a : Int} {m P : Nat} {S : ST} {fw0 : Nat → Int} (hv : NV A B m P) (ha : 0 ≤ a ∧ a < P) (H : FI A B fw0 a m P S) : ∀ (n i : Nat) (fw : Nat → Int), i ≤ n → 0 < i → (i : Int) < S.2.2 → (∀ r, r < m → -1 ≤ fw r ∧ fw r ≤ 1) → (∀ q : Nat, 0 < q → q ≤ i → fw (S.1 (S.2.1 q).toNat).toNat = fw0 (S.1 (S.2.1 q).toNat).toNat) →
    (∀ r, r < m → -1 ≤ AU A B S.1 a n (S.2.1 i) fw r ∧ AU A B S.1 a n (S.2.1 i) fw r ≤ 1) ∧ outf A B a m (AU A B S.1 a n (S.2.1 i) fw) = outf A B a m fw + 1 ∧ AU A B S.1 a (n + 1) (S.2.1 i) fw = AU A B S.1 a n (S.2.1 i) fw := by
  obtain ⟨⟨c1, c2, c2b⟩, c3, c4, c5, c6⟩ := H
  intro n
  induction n with
  | zero => intro i fw h1 h2; omega
  | succ n ih =>
    intro i fw h1 h2 h3 hb hq
    obtain ⟨q1, j, q2, q3, q4⟩ := c6 i h2 h3
    have hi := c3 i h3
    have hj := c3 j (by omega)
    have e0 := hq i h2 (Nat.le_refl _)
    have na : ¬ S.2.1 i = a := by rw [← c2]; exact fun w => c5 0 i h2 h3 w.symm
    have step : ∀ k, AU A B S.1 a (k + 1) (S.2.1 i) fw = AU A B S.1 a k (S.2.1 j) (ud fw (S.1 (S.2.1 i).toNat).toNat (fw (S.1 (S.2.1 i).toNat).toNat + dr B (S.1 (S.2.1 i).toNat).toNat (S.2.1 i))) := fun k => by
      show (if S.2.1 i = a then fw else AU A B S.1 a k _ _) = _
      rw [if_neg na, q3]
    rw [step, step]
    generalize hr : (S.1 (S.2.1 i).toNat).toNat = r at *
    have hrm : r < m := by omega
    have nv := hv r hrm
    have ej : oe A B r (S.2.1 i) = S.2.1 j := q3
    have inc : A r = S.2.1 i ∧ B r = S.2.1 j ∨ A r = S.2.1 j ∧ B r = S.2.1 i := by
      unfold oe at ej
      by_cases w : A r = S.2.1 i
      · rw [if_pos w] at ej; exact Or.inl ⟨w, ej⟩
      · rw [if_neg w] at ej
        by_cases w2 : B r = S.2.1 i
        · rw [if_pos w2] at ej; exact Or.inr ⟨ej, w2⟩
        · rw [if_neg w2] at ej; omega
    have hv1 : -1 ≤ fw r + dr B r (S.2.1 i) ∧ fw r + dr B r (S.2.1 i) ≤ 1 := by
      have b := hb r hrm
      unfold dr
      unfold cg at q4
      rw [← e0] at q4
      rcases inc with w | w
      · rw [if_neg (by omega)]
        rcases q4 with u | u <;> omega
      · rw [if_pos w.2]
        rcases q4 with u | u <;> omega
    have hb' : ∀ q, q < m → -1 ≤ ud fw r (fw r + dr B r (S.2.1 i)) q ∧ ud fw r (fw r + dr B r (S.2.1 i)) q ≤ 1 := fun q hq => by
      unfold ud
      split
      · exact hv1
      · exact hb q hq
    by_cases g : j = 0
    · subst g
      rw [c2] at inc ⊢
      have ae : ∀ k fw', AU A B S.1 a k a fw' = fw' := by
        intro k
        cases k with
        | zero => intro _; rfl
        | succ k => intro fw'; exact if_pos rfl
      rw [ae, ae, outf_ud hrm]
      refine ⟨hb', ?_, rfl⟩
      rcases inc with w | w
      · have hd : dr B r (S.2.1 i) = -1 := if_neg (by omega)
        simp only [hd, if_neg (show ¬ A r = a by omega), if_pos w.2]; omega
      · have hd : dr B r (S.2.1 i) = 1 := if_pos w.2
        simp only [hd, if_pos w.1]; omega
    · have ne : ∀ q : Nat, 0 < q → q ≤ j → ¬ (S.1 (S.2.1 q).toNat).toNat = r := by
        intro q hq1 hq2 w
        obtain ⟨p1, j', p2, p3, p4⟩ := c6 q hq1 (by omega)
        rw [w] at p3
        have d1 : ¬ S.2.1 q = S.2.1 i := c5 q i (by omega) h3
        have d2 : ¬ S.2.1 j' = S.2.1 i := c5 j' i (by omega) h3
        have hj' := c3 j' (by omega)
        unfold oe at p3
        by_cases u : A r = S.2.1 q
        · rw [if_pos u] at p3
          rcases inc with v | v
          · exact d1 (u.symm.trans v.1)
          · exact d2 (p3.symm.trans v.2)
        · rw [if_neg u] at p3
          by_cases u2 : B r = S.2.1 q
          · rw [if_pos u2] at p3
            rcases inc with v | v
            · exact d2 (p3.symm.trans v.1)
            · exact d1 (u2.symm.trans v.2)
          · rw [if_neg u2] at p3; omega
      have hq' : ∀ q : Nat, 0 < q → q ≤ j → ud fw r (fw r + dr B r (S.2.1 i)) (S.1 (S.2.1 q).toNat).toNat = fw0 (S.1 (S.2.1 q).toNat).toNat := fun q h1 h2 => by
        rw [ud_ne (ne q h1 h2)]
        exact hq q h1 (by omega)
      obtain ⟨r1, r2, r3⟩ := ih j _ (by omega) (by omega) (by omega) hb' hq'
      refine ⟨r1, ?_, r3⟩
      rw [r2, outf_ud hrm]
      have nja : ¬ S.2.1 j = a := by rw [← c2]; exact fun w => c5 0 j (by omega) (by omega) w.symm
      rw [if_neg (by rcases inc with v | v <;> omega), if_neg (by rcases inc with v | v <;> omega), if_neg (by rcases inc with v | v <;> omega), if_neg (by rcases inc with v | v <;> omega)]
      omega
theorem AU_w {A B f : Nat → Int} {a : Int} {m : Nat} : ∀ (n : Nat) (x : Int) (fw fw' : Nat → Int), (∀ r, r < m → fw r = fw' r) → ∀ r, r < m → AU A B f a n x fw r = AU A B f a n x fw' r := by
  intro n
  induction n with
  | zero => intro x fw fw' hw r hr; exact hw r hr
  | succ n ih =>
    intro x fw fw' hw r hr
    unfold AU
    by_cases c : x = a
    · rw [if_pos c, if_pos c]; exact hw r hr
    · rw [if_neg c, if_neg c]
      refine ih _ _ _ (fun q hq => ?_) r hr
      unfold ud
      by_cases g : q = (f x.toNat).toNat
      · rw [if_pos g, if_pos g, ← g, hw q hq]
      · rw [if_neg g, if_neg g]; exact hw q hq
theorem AU_f {A B fw0 f' : Nat → Int} {a : Int} {m P : Nat} {S : ST} (H : FI A B fw0 a m P S) (hf : ∀ b, b < P → S.1 b = f' b) : ∀ (n i : Nat) (fw : Nat → Int), (i : Int) < S.2.2 → AU A B S.1 a n (S.2.1 i) fw = AU A B f' a n (S.2.1 i) fw := by
  obtain ⟨⟨c1, c2, c2b⟩, c3, c4, c5, c6⟩ := H
  intro n
  induction n with
  | zero => intro i fw h; rfl
  | succ n ih =>
    intro i fw h
    have hi := c3 i h
    unfold AU
    by_cases c : S.2.1 i = a
    · rw [if_pos c, if_pos c]
    · rw [if_neg c, if_neg c, ← hf _ (by omega)]
      by_cases g : i = 0
      · subst g; exact absurd c2 c
      · obtain ⟨q1, j, q2, q3, q4⟩ := c6 i (by omega) h
        rw [q3]
        exact ih j _ (by omega)
/-- from a flow on, so many ways more, at most n -/
def fnd (A B fw : Nat → Int) (a t : Int) (m P : Nat) : ST := FS A B fw a t m P (fun _ => -1) (fun _ => 0)
def wy (A B : Nat → Int) (a t : Int) (m P : Nat) : Nat → (Nat → Int) → Int
  | 0, _ => 0
  | n + 1, fw => if (fnd A B fw a t m P).1 t.toNat = -1 then 0 else 1 + wy A B a t m P n (AU A B (fnd A B fw a t m P).1 a 80 t fw)
theorem fnd_FI {A B fw : Nat → Int} {a t : Int} {m P : Nat} (hv : NV A B m P) (ha : 0 ≤ a ∧ a < P) : FI A B fw a m P (fnd A B fw a t m P) := FI_all hv (fun _ _ => rfl) ha P
/-- a way that was found makes one more -/
theorem fnd_out {A B fw : Nat → Int} {a t : Int} {m P : Nat} (hv : NV A B m P) (hP : P ≤ 80) (ha : 0 ≤ a ∧ a < P) (ht : 0 ≤ t ∧ t < P) (hb : ∀ r, r < m → -1 ≤ fw r ∧ fw r ≤ 1) (h : ¬ (fnd A B fw a t m P).1 t.toNat = -1) : (∀ r, r < m → -1 ≤ AU A B (fnd A B fw a t m P).1 a 80 t fw r ∧ AU A B (fnd A B fw a t m P).1 a 80 t fw r ≤ 1) ∧ outf A B a m (AU A B (fnd A B fw a t m P).1 a 80 t fw) = outf A B a m fw + 1 := by
  have H := fnd_FI (A := A) (B := B) (fw := fw) (t := t) (m := m) hv ha
  have hle := FI_le ha H
  rcases H.2.2.1 t.toNat (by omega) with q | ⟨q1, i, q2, q3, q4⟩
  · exact absurd q h
  · have e : (fnd A B fw a t m P).2.1 i = t := by omega
    have r := AU_out hv ha H 80 i fw (by omega) q2 q3 hb (fun _ _ _ => rfl)
    rw [e] at r
    exact ⟨r.1, r.2.1⟩
theorem outf_le {A B fw : Nat → Int} {a : Int} {m : Nat} (hb : ∀ r, r < m → -1 ≤ fw r ∧ fw r ≤ 1) : outf A B a m fw ≤ m := by
  unfold outf
  induction m with
  | zero => exact Int.le_refl _
  | succ m ih =>
    have b := hb m (Nat.lt_succ_self m)
    have ih := ih (fun r hr => hb r (Nat.lt_succ_of_lt hr))
    show sm _ m + (if A m = a then fw m else if B m = a then -fw m else 0) ≤ ((m + 1 : Nat) : Int)
    have : (if A m = a then fw m else if B m = a then -fw m else 0) ≤ 1 := by
      split
      · omega
      · split <;> omega
    omega
theorem wy_b {A B : Nat → Int} {a t : Int} {m P : Nat} : ∀ (n : Nat) (fw : Nat → Int), 0 ≤ wy A B a t m P n fw ∧ wy A B a t m P n fw ≤ n := by
  intro n
  induction n with
  | zero => intro fw; exact ⟨Int.le_refl _, Int.le_refl _⟩
  | succ n ih =>
    intro fw
    unfold wy
    have := ih (AU A B (fnd A B fw a t m P).1 a 80 t fw)
    split <;> omega
theorem wy_out {A B : Nat → Int} {a t : Int} {m P : Nat} (hv : NV A B m P) (hP : P ≤ 80) (ha : 0 ≤ a ∧ a < P) (ht : 0 ≤ t ∧ t < P) : ∀ (n : Nat) (fw : Nat → Int), (∀ r, r < m → -1 ≤ fw r ∧ fw r ≤ 1) → wy A B a t m P n fw ≤ m - outf A B a m fw := by
  intro n
  induction n with
  | zero => intro fw hb; have := outf_le (A := A) (B := B) (a := a) (m := m) hb; show (0 : Int) ≤ _; omega
  | succ n ih =>
    intro fw hb
    have := outf_le (A := A) (B := B) (a := a) (m := m) hb
    unfold wy
    split
    · omega
    · rename_i h
      obtain ⟨h1, h2⟩ := fnd_out hv hP ha ht hb h
      have := ih _ h1
      omega
/-- more room than there are ways changes nothing; less cuts off -/
theorem wy_min {A B : Nat → Int} {a t : Int} {m P : Nat} : ∀ (n k : Nat) (fw : Nat → Int), wy A B a t m P n fw = if wy A B a t m P (n + k) fw < n then wy A B a t m P (n + k) fw else n := by
  intro n
  induction n with
  | zero => intro k fw; have := (wy_b (A := A) (B := B) (a := a) (t := t) (m := m) (P := P) (0 + k) fw).1; rw [if_neg (by omega)]; rfl
  | succ n ih =>
    intro k fw
    rw [show n + 1 + k = (n + k) + 1 by omega]
    unfold wy
    split
    · rw [if_pos (by omega)]
    · have := ih k (AU A B (fnd A B fw a t m P).1 a 80 t fw)
      rw [this]
      split
      · rw [if_pos (by omega)]
      · rw [if_neg (by omega)]; omega
theorem wy_cg {A B : Nat → Int} {a t : Int} {m P : Nat} (hv : NV A B m P) (ha : 0 ≤ a ∧ a < P) (ht : 0 ≤ t ∧ t < P) : ∀ (n : Nat) (fw fw' : Nat → Int), (∀ r, r < m → fw r = fw' r) → wy A B a t m P n fw = wy A B a t m P n fw' := by
  intro n
  induction n with
  | zero => intro _ _ _; rfl
  | succ n ih =>
    intro fw fw' hw
    have e := FS_cg (f := fun _ => -1) (f' := fun _ => -1) (g := fun _ => 0) (g' := fun _ => 0) hv hw (fun _ _ => rfl) (fun _ _ => rfl) ha ht P
    have H := fnd_FI (A := A) (B := B) (fw := fw) (t := t) (m := m) hv ha
    have e1 : (fnd A B fw a t m P).1 t.toNat = (fnd A B fw' a t m P).1 t.toNat := e.1 t.toNat (by omega)
    unfold wy
    rw [← e1]
    by_cases c : (fnd A B fw a t m P).1 t.toNat = -1
    · rw [if_pos c, if_pos c]
    · rw [if_neg c, if_neg c]
      rcases H.2.2.1 t.toNat (by omega) with q | ⟨q1, i, q2, q3, q4⟩
      · exact absurd q c
      · have ei : (fnd A B fw a t m P).2.1 i = t := by omega
        have h2 := AU_f (f' := (fnd A B fw' a t m P).1) H (fun b hb => e.1 b hb) 80 i fw q3
        rw [ei] at h2
        rw [h2, ih _ _ (AU_w 80 t fw fw' hw)]

