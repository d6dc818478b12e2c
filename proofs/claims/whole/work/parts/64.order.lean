/-! air: in whatever order the places of a level come -/
theorem ZZ_snoc {A B st w : Nat → Int} {ok : Nat → Bool} {m P : Nat} : ∀ {k : Nat} {d : Int} {s : OC}, ZZ A B st w ok m P (k + 1) d s = FUL A B st w ok m P (d - k) (ZZ A B st w ok m P k d s)
  | 0, d, s => by
    show FUL A B st w ok m P d s = FUL A B st w ok m P (d - ((0 : Nat) : Int)) s
    rw [show d - ((0 : Nat) : Int) = d from Int.sub_zero d]
  | k + 1, d, s => by
    show ZZ A B st w ok m P (k + 1) (d - 1) (FUL A B st w ok m P d s) = FUL A B st w ok m P (d - ((k + 1 : Nat) : Int)) (ZZ A B st w ok m P k (d - 1) (FUL A B st w ok m P d s))
    rw [ZZ_snoc (k := k), show d - 1 - (k : Int) = d - ((k + 1 : Nat) : Int) by omega]
theorem ZZ_add {A B st w : Nat → Int} {ok : Nat → Bool} {m P : Nat} : ∀ {k n : Nat} {d : Int} {s : OC}, ZZ A B st w ok m P (k + n) d s = ZZ A B st w ok m P n (d - k) (ZZ A B st w ok m P k d s)
  | 0, n, d, s => by
    show ZZ A B st w ok m P (0 + n) d s = ZZ A B st w ok m P n (d - ((0 : Nat) : Int)) s
    rw [Nat.zero_add, show d - ((0 : Nat) : Int) = d from Int.sub_zero d]
  | k + 1, n, d, s => by
    rw [show k + 1 + n = (k + n) + 1 by omega]
    show ZZ A B st w ok m P (k + n) (d - 1) (FUL A B st w ok m P d s) = ZZ A B st w ok m P n (d - ((k + 1 : Nat) : Int)) (ZZ A B st w ok m P k (d - 1) (FUL A B st w ok m P d s))
    rw [ZZ_add (k := k), show d - 1 - (k : Int) = d - ((k + 1 : Nat) : Int) by omega]
theorem FUL_none {A B st w : Nat → Int} {ok : Nat → Bool} {m P : Nat} {d : Int} {s : OC} (hv : NV A B m P) (h : ∀ h, h < P → st h = d → ¬ 0 < s.2 h) : FUL A B st w ok m P d s = s := by
  unfold FUL
  rw [PS_cg (Y' := fun h => decide (h < P ∧ st h = d)) hv (fun h hh => by simp [hh])]
  refine PS_none (fun k hk => ?_)
  have := of_decide_eq_true hk
  exact h k this.1 this.2
theorem ZZ_none {A B st w : Nat → Int} {ok : Nat → Bool} {m P : Nat} {s : OC} (hv : NV A B m P) : ∀ {k : Nat} {d : Int}, (∀ h, h < P → d - k < st h → ¬ 0 < s.2 h) → ZZ A B st w ok m P k d s = s
  | 0, _, _ => rfl
  | k + 1, d, hs => by
    show ZZ A B st w ok m P k (d - 1) (FUL A B st w ok m P d s) = s
    rw [FUL_none hv (fun h hh e => hs h hh (by omega))]
    exact ZZ_none hv (fun h hh e => hs h hh (by omega))
noncomputable def YY (P : Nat) (S : ST) (d : Int) (i : Nat) : Nat → Bool := fun h => @decide (h < P ∧ S.1 h = d ∧ ∃ j : Nat, i < j ∧ (j : Int) < S.2.2 ∧ S.2.1 j = h) (Classical.propDecidable _)
theorem YY_iff {P : Nat} {S : ST} {d : Int} {i h : Nat} : YY P S d i h = true ↔ (h < P ∧ S.1 h = d ∧ ∃ j : Nat, i < j ∧ (j : Int) < S.2.2 ∧ S.2.1 j = h) := by
  unfold YY
  exact @decide_eq_true_iff _ (Classical.propDecidable _)
/-- the row from k down to 1 -/
def RW (A B st w : Nat → Int) (ok : Nat → Bool) (m : Nat) (ro : Nat → Int) : Nat → OC → OC
  | 0, s => s
  | k + 1, s => RW A B st w ok m ro k (PRO A B st w ok m (ro (k + 1)).toNat s)
theorem bool_ext {a b : Bool} (h : a = true ↔ b = true) : a = b := by
  cases a <;> cases b <;> simp_all
/-- what is needed of a walk -/
def BW (P : Nat) (S : ST) : Prop :=
  (1 ≤ S.2.2 ∧ S.2.2 ≤ P ∧ P ≤ 80) ∧ (∀ i : Nat, (i : Int) < S.2.2 → (0 ≤ S.2.1 i ∧ S.2.1 i < P) ∧ 0 ≤ S.1 (S.2.1 i).toNat ∧ S.1 (S.2.1 i).toNat ≤ i) ∧
  (∀ b : Nat, b < P → S.1 b = -1 ∨ ∃ i : Nat, (i : Int) < S.2.2 ∧ S.2.1 i = b) ∧
  (∀ i j : Nat, i < j → (j : Int) < S.2.2 → ¬ S.2.1 i = S.2.1 j ∧ S.1 (S.2.1 i).toNat ≤ S.1 (S.2.1 j).toNat) ∧
  (∀ i : Nat, (i : Int) + 1 < S.2.2 → S.1 (S.2.1 (i + 1)).toNat ≤ S.1 (S.2.1 i).toNat + 1 ∧ 1 ≤ S.1 (S.2.1 (i + 1)).toNat)
theorem BW_of {A B : Nat → Int} {ok : Nat → Bool} {m P : Nat} {S : ST} (hP : P ≤ 80) (H : BI A B ok m P P S) : BW P S := by
  have hle := BI_le H
  obtain ⟨⟨c1, c2⟩, c3, c4, c5, c6, c7⟩ := H
  refine ⟨⟨hle.1, hle.2, hP⟩, c2, c3, c4, fun i hi => ?_⟩
  obtain ⟨j, r, q1, q2, q3, q4, q5⟩ := c7 (i + 1) (by omega) (by omega)
  have h0 := c2 j (by omega)
  by_cases g : j = i
  · subst g
    omega
  · have := (c4 j i (by omega) (by omega)).2
    omega
theorem RW_ZZ {A B w : Nat → Int} {ok : Nat → Bool} {m P : Nat} {S : ST} {s : OC} (hv : NV A B m P) (H : BW P S) : ∀ i : Nat, (i : Int) < S.2.2 → RW A B S.1 w ok m S.2.1 i (PS A B S.1 w ok m P (YY P S (S.1 (S.2.1 i).toNat) i) (ZZ A B S.1 w ok m P (80 - (S.1 (S.2.1 i).toNat).toNat) 80 s)) = ZZ A B S.1 w ok m P 80 80 s := by
  obtain ⟨⟨n1, n2, n3⟩, c2, c3, c4, c5⟩ := H
  have nodup : ∀ i j : Nat, (i : Int) < S.2.2 → (j : Int) < S.2.2 → S.2.1 i = S.2.1 j → i = j := fun i j hi hj e => by
    rcases Nat.lt_trichotomy i j with q | q | q
    · exact absurd e (c4 i j q hj).1
    · exact q
    · exact absurd e.symm (c4 j i q hi).1
  intro i
  induction i with
  | zero =>
    intro hi
    have h0 := c2 0 hi
    have e0 : S.1 (S.2.1 0).toNat = 0 := by omega
    rw [e0]
    show PS A B S.1 w ok m P (YY P S 0 0) (ZZ A B S.1 w ok m P 80 80 s) = _
    refine PS_none (fun h hh => ?_)
    obtain ⟨q1, q2, j, q3, q4, q5⟩ := YY_iff.mp hh
    obtain ⟨k, rfl⟩ : ∃ k, j = k + 1 := ⟨j - 1, by omega⟩
    have := (c5 k (by omega)).2
    rw [q5] at this
    simp only [Int.toNat_natCast] at this
    omega
  | succ i ih =>
    intro hi
    have hi' : (i : Int) < S.2.2 := by omega
    have ih := ih hi'
    have hr := c2 (i + 1) hi
    have hr0 := c2 i hi'
    have h5 := c5 i (by omega)
    have h4 := (c4 i (i + 1) (by omega) hi).2
    show RW A B S.1 w ok m S.2.1 i (PRO A B S.1 w ok m (S.2.1 (i + 1)).toNat _) = _
    rw [PS_add hv (by omega) rfl (fun k hk => (YY_iff.mp hk).2.1) (by
      rw [← Bool.not_eq_true]
      intro q
      obtain ⟨q1, q2, j, q3, q4, q5⟩ := YY_iff.mp q
      have := nodup j (i + 1) q4 hi (by omega)
      omega)]
    by_cases g : S.1 (S.2.1 (i + 1)).toNat = S.1 (S.2.1 i).toNat
    · rw [g]
      rw [PS_cg (Y' := YY P S (S.1 (S.2.1 i).toNat) i) hv (fun h hh => ?_)]
      · exact ih
      · refine bool_ext ?_
        rw [Bool.or_eq_true, decide_eq_true_iff, YY_iff, YY_iff]
        constructor
        · rintro (⟨q1, q2, j, q3, q4, q5⟩ | q)
          · exact ⟨q1, q2, j, by omega, q4, q5⟩
          · refine ⟨hh, ?_, i + 1, by omega, hi, by omega⟩
            rw [q]; exact g
        · rintro ⟨q1, q2, j, q3, q4, q5⟩
          by_cases u : j = i + 1
          · subst u
            exact Or.inr (by omega)
          · exact Or.inl ⟨q1, q2, j, by omega, q4, q5⟩
    · have g2 : S.1 (S.2.1 (i + 1)).toNat = S.1 (S.2.1 i).toNat + 1 := by omega
      have eF : ∀ s', PS A B S.1 w ok m P (fun k => YY P S (S.1 (S.2.1 (i + 1)).toNat) (i + 1) k || decide (k = (S.2.1 (i + 1)).toNat)) s' = FUL A B S.1 w ok m P (S.1 (S.2.1 (i + 1)).toNat) s' := fun s' => by
        unfold FUL
        refine PS_cg hv (fun h hh => ?_)
        refine bool_ext ?_
        rw [Bool.or_eq_true, decide_eq_true_iff, decide_eq_true_iff, YY_iff]
        constructor
        · rintro (q | q)
          · exact q.2.1
          · rw [q]
        · intro q
          rcases c3 h hh with u | ⟨j, u1, u2⟩
          · omega
          · have uj : S.1 (S.2.1 j).toNat = S.1 (S.2.1 (i + 1)).toNat := by rw [u2, Int.toNat_natCast]; exact q
            by_cases v : j = i + 1
            · subst v; exact Or.inr (by omega)
            · by_cases v2 : j < i + 1
              · by_cases v3 : j = i
                · subst v3; omega
                · have := (c4 j i (by omega) hi').2
                  omega
              · exact Or.inl ⟨hh, q, j, by omega, u1, u2⟩
      rw [eF]
      have eZ : FUL A B S.1 w ok m P (S.1 (S.2.1 (i + 1)).toNat) (ZZ A B S.1 w ok m P (80 - (S.1 (S.2.1 (i + 1)).toNat).toNat) 80 s) = ZZ A B S.1 w ok m P (80 - (S.1 (S.2.1 i).toNat).toNat) 80 s := by
        rw [show 80 - (S.1 (S.2.1 i).toNat).toNat = (80 - (S.1 (S.2.1 (i + 1)).toNat).toNat) + 1 by omega, ZZ_snoc]
        rw [show (80 : Int) - ((80 - (S.1 (S.2.1 (i + 1)).toNat).toNat : Nat) : Int) = S.1 (S.2.1 (i + 1)).toNat by omega]
      rw [eZ]
      rw [PS_none (fun h hh => ?_)] at ih
      · exact ih
      · obtain ⟨q1, q2, j, q3, q4, q5⟩ := YY_iff.mp hh
        exfalso
        have uj : S.1 (S.2.1 j).toNat = S.1 (S.2.1 i).toNat := by rw [q5, Int.toNat_natCast]; exact q2
        by_cases v : j = i + 1
        · subst v; omega
        · have := (c4 (i + 1) j (by omega) q4).2
          omega
theorem RW_all {A B w : Nat → Int} {ok : Nat → Bool} {m P : Nat} {S : ST} {s : OC} (hv : NV A B m P) (H : BW P S) : RW A B S.1 w ok m S.2.1 (S.2.2 - 1).toNat s = ZZ A B S.1 w ok m P 80 80 s := by
  have h := RW_ZZ (A := A) (B := B) (w := w) (ok := ok) (m := m) (s := s) hv H (S.2.2 - 1).toNat (by have := H.1; omega)
  rw [PS_none (fun h hh => ?_)] at h
  · rw [ZZ_none hv (fun k hk e => ?_)] at h
    · exact h
    · exfalso
      have n1 := H.1
      have h0 := H.2.1 (S.2.2 - 1).toNat (by omega)
      rcases H.2.2.1 k hk with u | ⟨j, u1, u2⟩
      · omega
      · have uj : S.1 (S.2.1 j).toNat = S.1 k := by rw [u2, Int.toNat_natCast]
        by_cases v : j = (S.2.2 - 1).toNat
        · rw [v] at uj; omega
        · have := (H.2.2.2.1 j (S.2.2 - 1).toNat (by omega) (by omega)).2
          omega
  · obtain ⟨q1, q2, j, q3, q4, q5⟩ := YY_iff.mp hh
    exfalso
    omega
/-- the reference's order -/
def RA (A B st w : Nat → Int) (ok : Nat → Bool) (m P : Nat) (d : Int) (s : OC) : OC := itr (fun (a : Nat) (s : OC) => if st a = d ∧ 0 < s.2 a then PRO A B st w ok m a s else s) P s
theorem RA_k {A B st w : Nat → Int} {ok : Nat → Bool} {m P : Nat} {d : Int} {s : OC} (hv : NV A B m P) : ∀ k, k ≤ P → itr (fun (a : Nat) (s : OC) => if st a = d ∧ 0 < s.2 a then PRO A B st w ok m a s else s) k s = PS A B st w ok m P (fun h => decide (st h = d ∧ h < k)) s
  | 0, _ => (PS_none (fun h hh => by have := (of_decide_eq_true hh).2; omega)).symm
  | k + 1, hk => by
    have ih := RA_k (A := A) (B := B) (st := st) (w := w) (ok := ok) (d := d) (s := s) hv k (by omega)
    show (if st k = d ∧ 0 < (itr _ k s).2 k then PRO A B st w ok m k (itr _ k s) else itr _ k s) = _
    rw [ih]
    by_cases c : st k = d
    · have ea : PRO A B st w ok m k (PS A B st w ok m P (fun h => decide (st h = d ∧ h < k)) s) = PS A B st w ok m P (fun h => decide (st h = d ∧ h < k + 1)) s := by
        rw [PS_add hv (by omega) c (fun q hq => (of_decide_eq_true hq).1) (by rw [← Bool.not_eq_true]; intro q; have := (of_decide_eq_true q).2; omega)]
        refine PS_cg hv (fun h hh => bool_ext ?_)
        rw [Bool.or_eq_true, decide_eq_true_iff, decide_eq_true_iff, decide_eq_true_iff]
        constructor
        · rintro (q | q)
          · exact ⟨q.1, by omega⟩
          · subst q; exact ⟨c, by omega⟩
        · rintro ⟨q1, q2⟩
          by_cases u : h = k
          · exact Or.inr u
          · exact Or.inl ⟨q1, by omega⟩
      by_cases c2 : 0 < (PS A B st w ok m P (fun h => decide (st h = d ∧ h < k)) s).2 k
      · rw [if_pos ⟨c, c2⟩]; exact ea
      · rw [if_neg (fun q => c2 q.2), ← ea, PRO_0 c2]
    · rw [if_neg (fun q => c q.1)]
      refine PS_cg hv (fun h hh => bool_ext ?_)
      rw [decide_eq_true_iff, decide_eq_true_iff]
      constructor
      · intro q; exact ⟨q.1, by omega⟩
      · rintro ⟨q1, q2⟩
        by_cases u : h = k
        · subst u; exact absurd q1 c
        · exact ⟨q1, by omega⟩
theorem RA_all {A B st w : Nat → Int} {ok : Nat → Bool} {m P : Nat} {d : Int} {s : OC} (hv : NV A B m P) : RA A B st w ok m P d s = FUL A B st w ok m P d s := by
  unfold RA FUL
  rw [RA_k hv P (Nat.le_refl P)]
  exact PS_cg hv (fun h hh => by simp [hh])
def RD (A B st w : Nat → Int) (ok : Nat → Bool) (m P : Nat) : Nat → OC → OC
  | 0, s => s
  | k + 1, s => RD A B st w ok m P k (RA A B st w ok m P ((k + 1 : Nat) : Int) s)
theorem RD_ZZ {A B st w : Nat → Int} {ok : Nat → Bool} {m P : Nat} (hv : NV A B m P) : ∀ {k : Nat} {s : OC}, RD A B st w ok m P k s = ZZ A B st w ok m P k k s
  | 0, _ => rfl
  | k + 1, s => by
    show RD A B st w ok m P k (RA A B st w ok m P ((k + 1 : Nat) : Int) s) = ZZ A B st w ok m P k (((k + 1 : Nat) : Int) - 1) (FUL A B st w ok m P ((k + 1 : Nat) : Int) s)
    rw [RA_all hv, RD_ZZ hv, show ((k + 1 : Nat) : Int) - 1 = (k : Int) by omega]
/-- from the fan's level on is from the highest on -/
theorem RD_all {A B st w : Nat → Int} {ok : Nat → Bool} {m P k : Nat} {s : OC} (hv : NV A B m P) (hk : k ≤ 80) (hs : ∀ h, h < P → (k : Int) < st h → ¬ 0 < s.2 h) : RD A B st w ok m P k s = ZZ A B st w ok m P 80 80 s := by
  rw [RD_ZZ hv]
  have h := ZZ_add (A := A) (B := B) (st := st) (w := w) (ok := ok) (m := m) (P := P) (k := 80 - k) (n := k) (d := 80) (s := s)
  have hz : ZZ A B st w ok m P (80 - k) 80 s = s := ZZ_none hv (fun q hq e => hs q hq (by omega))
  rw [hz, show 80 - k + k = 80 by omega, show (80 : Int) - ((80 - k : Nat) : Int) = k by omega] at h
  exact h.symm
/-- alike nets, alike air -/
theorem onb_cg {A B st st' : Nat → Int} {ok ok' : Nat → Bool} {m P h r : Nat} (hv : NV A B m P) (hs : ∀ b, b < P → st b = st' b) (ho : ∀ r, r < m → ok r = ok' r) (hh : h < P) (hr : r < m) : onb A B st ok h r = onb A B st' ok' h r := by
  unfold onb
  rw [hs h hh, ho r hr]
  by_cases c : oe A B r h = -1
  · simp [c]
  · have := oe_in hv hr (Int.natCast_nonneg h) c
    rw [hs _ (by omega)]
theorem SW_cg {on on' : Nat → Bool} {w w' : Nat → Int} {m : Nat} (h1 : ∀ r, r < m → on r = on' r) (h2 : ∀ r, r < m → w r = w' r) : SW on w m = SW on' w' m := sm_congr (fun r hr => by rw [h1 r hr, h2 r hr])
theorem L2_cg {on on' : Nat → Bool} {L : Int} : ∀ {k : Nat}, (∀ r, r < k → on r = on' r) → L2 on L k = L2 on' L k
  | 0, _ => rfl
  | k + 1, h => by
    show (if on k = true ∧ 0 < L2 on L k then L2 on L k - 1 else L2 on L k) = (if on' k = true ∧ 0 < L2 on' L k then L2 on' L k - 1 else L2 on' L k)
    rw [L2_cg (fun r hr => h r (by omega)), h k (by omega)]
theorem SHV_cg {on on' : Nat → Bool} {w w' : Nat → Int} {m r : Nat} {x : Int} (h1 : ∀ r, r < m → on r = on' r) (h2 : ∀ r, r < m → w r = w' r) (hr : r < m) : SHV on w m x r = SHV on' w' m x r := by
  have e : LF on w m x m = LF on' w' m x m := by
    unfold LF
    rw [sm_congr (fun q hq => by rw [h1 q hq, h2 q hq, SW_cg h1 h2])]
  unfold SHV
  rw [e, SW_cg h1 h2, h2 r hr, L2_cg (on' := on') (fun q hq => h1 q (by omega))]
theorem CTA_cg {A B st st' w w' : Nat → Int} {ok ok' : Nat → Bool} {m P h b : Nat} {x : Int} (hv : NV A B m P) (hs : ∀ b, b < P → st b = st' b) (ho : ∀ r, r < m → ok r = ok' r) (hw : ∀ r, r < m → w r = w' r) (hh : h < P) : CTA A B st w ok m h x b = CTA A B st' w' ok' m h x b := by
  unfold CTA
  rw [sm_congr (fun r hr => by rw [onb_cg hv hs ho hh hr, SHV_cg (fun q hq => onb_cg hv hs ho hh hq) hw hr])]
/-- the same over the roads of which T speaks, and what comes to each place -/
def OR (P m : Nat) (T : Nat → Prop) (s s' : OC) : Prop := (∀ b, b < P → s.2 b = s'.2 b) ∧ ∀ r, r < m → T r → s.1 r = s'.1 r
theorem PS_cg2 {A B st st' w w' : Nat → Int} {ok ok' : Nat → Bool} {m P : Nat} {Y Y' : Nat → Bool} {T : Nat → Prop} {s s' : OC} (hv : NV A B m P) (hs : ∀ b, b < P → st b = st' b) (ho : ∀ r, r < m → ok r = ok' r) (hw : ∀ r, r < m → w r = w' r) (hY : ∀ h, h < P → Y h = Y' h) (H : OR P m T s s') : OR P m T (PS A B st w ok m P Y s) (PS A B st' w' ok' m P Y' s') := by
  constructor
  · intro b hb
    show s.2 b + sm _ P = s'.2 b + sm _ P
    rw [H.1 b hb, sm_congr (fun h hh => by rw [hY h hh, H.1 h hh, CTA_cg hv hs ho hw hh])]
  · intro r hr ht
    have nv := hv r hr
    have eu : upr A B st r = upr A B st' r := by unfold upr; rw [hs _ (by omega), hs _ (by omega)]
    have hu : (upr A B st' r).toNat < P := by unfold upr; split <;> omega
    show (if _ then _ else s.1 r) = (if _ then _ else s'.1 r)
    rw [eu, hY _ hu, H.1 _ hu, onb_cg hv hs ho hu hr, SHV_cg (fun q hq => onb_cg hv hs ho hu hq) hw hr, H.2 r hr ht]
theorem ZZ_cg {A B st st' w w' : Nat → Int} {ok ok' : Nat → Bool} {m P : Nat} {T : Nat → Prop} (hv : NV A B m P) (hs : ∀ b, b < P → st b = st' b) (ho : ∀ r, r < m → ok r = ok' r) (hw : ∀ r, r < m → w r = w' r) : ∀ {k : Nat} {d : Int} {s s' : OC}, OR P m T s s' → OR P m T (ZZ A B st w ok m P k d s) (ZZ A B st' w' ok' m P k d s')
  | 0, _, _, _, H => H
  | k + 1, d, s, s', H => by
    show OR P m T (ZZ A B st w ok m P k (d - 1) (FUL A B st w ok m P d s)) (ZZ A B st' w' ok' m P k (d - 1) (FUL A B st' w' ok' m P d s'))
    exact ZZ_cg hv hs ho hw (PS_cg2 (Y := fun h => decide (st h = d)) (Y' := fun h => decide (st' h = d)) hv hs ho hw (fun h hh => by rw [hs h hh]) H)

