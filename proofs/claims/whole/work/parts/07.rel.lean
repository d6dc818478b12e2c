/-! the small machine's heap and values beside the machine's -/
theorem getD_mem {α : Type} {l : List α} {a : Nat} {d : α} (h : a < l.length) : l.getD a d ∈ l := by
  rw [List.getD_eq_getElem?_getD, List.getElem?_eq_getElem h]
  exact List.getElem_mem h
def tr (sb b0 : Nat) (ad : Nat → Nat) (v : AV) : Value :=
  if v.1 = 0 then .int (I3 v.2) else if v.1 = 1 then .long (I6 v.2) else if v.1 = 2 then .ref (ad v.2.toNat) else if v.1 = 4 then .ref b0 else if v.1 = 5 then .ref sb else .null
theorem tr0 (sb b0 : Nat) (ad : Nat → Nat) (x : Int) : tr sb b0 ad (0, x) = .int (I3 x) := rfl
theorem tr1 (sb b0 : Nat) (ad : Nat → Nat) (x : Int) : tr sb b0 ad (1, x) = .long (I6 x) := rfl
theorem tr2 (sb b0 : Nat) (ad : Nat → Nat) (x : Int) : tr sb b0 ad (2, x) = .ref (ad x.toNat) := rfl
theorem tr_cat (sb b0 : Nat) (ad : Nat → Nat) (v : AV) : (tr sb b0 ad v).category = if v.1 = 1 then 2 else 1 := by
  unfold tr
  by_cases h0 : v.1 = 0
  · rw [if_pos h0, if_neg (by omega)]; rfl
  · rw [if_neg h0]
    by_cases h1 : v.1 = 1
    · rw [if_pos h1, if_pos h1]; rfl
    · rw [if_neg h1, if_neg h1]
      split
      · rfl
      · split
        · rfl
        · split <;> rfl
def wv (n : Nat) (v : AV) : Prop := (v.1 = 0 → in32 v.2) ∧ (v.1 = 1 → in64 v.2) ∧ (v.1 = 2 → 0 ≤ v.2 ∧ v.2 < n)
theorem wv0 {n : Nat} {x : Int} (h : in32 x) : wv n (0, x) := ⟨fun _ => h, fun e => (by cases e), fun e => (by cases e)⟩
theorem wv1 {n : Nat} {x : Int} (h : in64 x) : wv n (1, x) := ⟨fun e => (by cases e), fun _ => h, fun e => (by cases e)⟩
theorem wv2 {n : Nat} {x : Int} (h0 : 0 ≤ x) (h : x < n) : wv n (2, x) := ⟨fun e => (by cases e), fun e => (by cases e), fun _ => ⟨h0, h⟩⟩
theorem wvk {n : Nat} {t : Nat} {x : Int} (h : 3 ≤ t) : wv n (t, x) := ⟨fun e => (by have : t = 0 := e; omega), fun e => (by have : t = 1 := e; omega), fun e => (by have : t = 2 := e; omega)⟩
theorem wv.up {n n' : Nat} {v : AV} (h : wv n v) (hn : n ≤ n') : wv n' v := ⟨h.1, h.2.1, fun e => by have := h.2.2 e; omega⟩
def wvs (n : Nat) (l : List AV) : Prop := ∀ v ∈ l, wv n v
theorem wvs_c {n : Nat} {v : AV} {l : List AV} : wvs n (v :: l) ↔ wv n v ∧ wvs n l := List.forall_mem_cons
theorem wvs_n {n : Nat} : wvs n [] := fun _ h => absurd h List.not_mem_nil
theorem lg_mem : ∀ {l : List AV} {i : Nat}, lg l i = (9, 0) ∨ lg l i ∈ l
  | [], _ => Or.inl rfl
  | _ :: _, 0 => Or.inr List.mem_cons_self
  | _ :: l, n + 1 => (lg_mem (l := l) (i := n)).imp id (List.mem_cons_of_mem _)
theorem lg_wv {n : Nat} {l : List AV} (h : wvs n l) (i : Nat) : wv n (lg l i) := by
  rcases lg_mem (l := l) (i := i) with e | e
  · rw [e]; exact wvk (by decide)
  · exact h _ e
theorem lset_len : ∀ (l : List AV) (i : Nat) (v : AV), (lset l i v).length = l.length
  | [], _, _ => rfl
  | _ :: _, 0, _ => rfl
  | _ :: l, n + 1, v => congrArg (· + 1) (lset_len l n v)
theorem lset_same : ∀ {l : List AV} {i : Nat} {v : AV}, i < l.length → lg (lset l i v) i = v
  | [], _, _, h => absurd h (Nat.not_lt_zero _)
  | _ :: _, 0, _, _ => rfl
  | _ :: l, n + 1, v, h => lset_same (l := l) (i := n) (Nat.lt_of_succ_lt_succ h)
theorem lset_ne : ∀ {l : List AV} {i j : Nat} {v : AV}, j ≠ i → lg (lset l i v) j = lg l j
  | [], _, _, _, _ => rfl
  | _ :: _, 0, 0, _, h => absurd rfl h
  | _ :: _, 0, _ + 1, _, _ => rfl
  | _ :: _, _ + 1, 0, _, _ => rfl
  | _ :: l, n + 1, j + 1, v, h => lset_ne (l := l) (i := n) (j := j) (fun e => h (congrArg (· + 1) e))
theorem lset_wvs {n : Nat} : ∀ {l : List AV} {i : Nat} {v : AV}, wvs n l → wv n v → wvs n (lset l i v)
  | [], _, _, h, _ => h
  | _ :: _, 0, _, h, hv => wvs_c.mpr ⟨hv, (wvs_c.mp h).2⟩
  | _ :: _, _ + 1, _, h, hv => wvs_c.mpr ⟨(wvs_c.mp h).1, lset_wvs (wvs_c.mp h).2 hv⟩
theorem lkill_len (l : List AV) (i : Nat) : (lkill l i).length = l.length := by
  unfold lkill; split
  · exact lset_len _ _ _
  · rfl
theorem lkill_wvs {n : Nat} {l : List AV} {i : Nat} (h : wvs n l) : wvs n (lkill l i) := by
  unfold lkill; split
  · exact lset_wvs h (wvk (by decide))
  · exact h
theorem st1_wvs {n : Nat} {l : List AV} {i : Nat} {v : AV} (h : wvs n l) (hv : wv n v) : wvs n (st1 l i v) := lset_wvs (lkill_wvs h) hv
theorem st2_wvs {n : Nat} {l : List AV} {i : Nat} {v : AV} (h : wvs n l) (hv : wv n v) : wvs n (st2 l i v) := lset_wvs (lset_wvs (lkill_wvs h) hv) (wvk (by decide))
theorem st1_len (l : List AV) (i : Nat) (v : AV) : (st1 l i v).length = l.length := (lset_len _ _ _).trans (lkill_len _ _)
theorem st2_len (l : List AV) (i : Nat) (v : AV) : (st2 l i v).length = l.length := (lset_len _ _ _).trans ((lset_len _ _ _).trans (lkill_len _ _))
/-- the locals -/
def prs (sb b0 : Nat) (ad : Nat → Nat) : Nat → List AV → List (Nat × Value)
  | _, [] => []
  | k, v :: l => if v.1 = 9 then prs sb b0 ad (k + 1) l else (k, tr sb b0 ad v) :: prs sb b0 ad (k + 1) l
theorem prs_mem {sb b0 : Nat} {ad : Nat → Nat} : ∀ {l : List AV} {k : Nat} {q : Nat × Value}, q ∈ prs sb b0 ad k l ↔ ∃ j, j < l.length ∧ q.1 = k + j ∧ (lg l j).1 ≠ 9 ∧ q.2 = tr sb b0 ad (lg l j)
  | [], k, q => ⟨fun h => absurd h List.not_mem_nil, fun ⟨_, h, _⟩ => absurd h (Nat.not_lt_zero _)⟩
  | v :: l, k, q => by
    unfold prs
    constructor
    · intro h
      by_cases hv : v.1 = 9
      · rw [if_pos hv] at h
        obtain ⟨j, h1, h2, h3, h4⟩ := prs_mem.mp h
        exact ⟨j + 1, Nat.succ_lt_succ h1, by rw [h2]; omega, h3, h4⟩
      · rw [if_neg hv] at h
        rcases List.mem_cons.mp h with rfl | h
        · exact ⟨0, Nat.succ_pos _, rfl, hv, rfl⟩
        · obtain ⟨j, h1, h2, h3, h4⟩ := prs_mem.mp h
          exact ⟨j + 1, Nat.succ_lt_succ h1, by rw [h2]; omega, h3, h4⟩
    · rintro ⟨j, h1, h2, h3, h4⟩
      cases j with
      | zero =>
        have hv : v.1 ≠ 9 := h3
        rw [if_neg hv]
        have : q = (k, tr sb b0 ad v) := Prod.ext h2 h4
        rw [this]; exact List.mem_cons_self
      | succ j =>
        have : q ∈ prs sb b0 ad (k + 1) l := prs_mem.mpr ⟨j, Nat.lt_of_succ_lt_succ h1, by rw [h2]; omega, h3, h4⟩
        split
        · exact this
        · exact List.mem_cons_of_mem _ this
def lr (sb b0 : Nat) (ad : Nat → Nat) (nL : Nat) (ls : List AV) (L : Array Slot) : Prop := lv_has L nL (prs sb b0 ad 0 ls) ∧ ls.length = nL
theorem lr_at {sb b0 : Nat} {ad : Nat → Nat} {nL : Nat} {ls : List AV} {L : Array Slot} (h : lr sb b0 ad nL ls L) {i : Nat} (hi : (lg ls i).1 ≠ 9) : L[i]? = some (.val (tr sb b0 ad (lg ls i))) := by
  have hl : i < ls.length := by
    by_cases hl : i < ls.length
    · exact hl
    · exfalso
      have : ∀ (l : List AV) (i : Nat), ¬ i < l.length → lg l i = (9, 0) := by
        intro l
        induction l with
        | nil => intro i _; rfl
        | cons v l ih =>
          intro i hi
          cases i with
          | zero => exact absurd (Nat.succ_pos _) hi
          | succ i => exact ih i (fun h => hi (Nat.succ_lt_succ h))
      rw [this ls i hl] at hi
      exact hi rfl
  exact h.1.2.2 (i, _) (prs_mem.mpr ⟨i, hl, by omega, hi, rfl⟩)
theorem lr_kill {ls : List AV} {i j : Nat} (hj : j ≠ i) (h : (lg (lkill ls i) j).1 ≠ 9) : lg (lkill ls i) j = lg ls j ∧ ¬ (j + 1 = i ∧ (lg ls j).1 = 1) := by
  unfold lkill at h ⊢
  by_cases hc : 0 < i ∧ (lg ls (i - 1)).1 = 1
  · rw [if_pos hc] at h ⊢
    by_cases e : j = i - 1
    · subst e
      by_cases hl : i - 1 < ls.length
      · rw [lset_same hl] at h; exact absurd rfl h
      · have : ∀ (l : List AV) (i : Nat), ¬ i < l.length → lg l i = (9, 0) := by
          intro l
          induction l with
          | nil => intro i _; rfl
          | cons v l ih =>
            intro i hi
            cases i with
            | zero => exact absurd (Nat.succ_pos _) hi
            | succ i => exact ih i (fun h => hi (Nat.succ_lt_succ h))
        rw [this _ _ hl] at hc
        exact absurd hc.2 (by decide)
    · rw [lset_ne e]
      exact ⟨rfl, fun h => e (by omega)⟩
  · rw [if_neg hc] at h ⊢
    exact ⟨rfl, fun h => hc ⟨by omega, by rw [show i - 1 = j by omega]; exact h.2⟩⟩
theorem lr_st1 {sb b0 : Nat} {ad : Nat → Nat} {nL : Nat} {ls : List AV} {L' : Array Slot} {i : Nat} {v : AV} {V : Value} (hV : V = tr sb b0 ad v) (hl : ls.length = nL)
    (h : lv_has L' nL ((i, V) :: (prs sb b0 ad 0 ls).filter (fun q => !(q.1 == i) && !(q.1 + 1 == i && q.2.category == 2)))) : lr sb b0 ad nL (st1 ls i v) L' := by
  refine ⟨⟨h.1, h.2.1, fun q hq => ?_⟩, by rw [st1_len]; exact hl⟩
  obtain ⟨j, h1, h2, h3, h4⟩ := prs_mem.mp hq
  rw [Nat.zero_add] at h2
  apply h.2.2
  by_cases e : j = i
  · subst e
    have hj : j < (lkill ls j).length := by rw [st1_len] at h1; rw [lkill_len]; exact h1
    have : lg (st1 ls j v) j = v := lset_same hj
    rw [this] at h4
    have : q = (j, V) := Prod.ext h2 (by rw [h4, hV])
    rw [this]; exact List.mem_cons_self
  · have h5 : lg (st1 ls i v) j = lg (lkill ls i) j := lset_ne e
    rw [h5] at h3 h4
    obtain ⟨h6, h7⟩ := lr_kill e h3
    rw [h6] at h3 h4
    apply List.mem_cons_of_mem
    apply List.mem_filter.mpr
    refine ⟨prs_mem.mpr ⟨j, by rw [st1_len] at h1; exact h1, by omega, h3, h4⟩, ?_⟩
    rw [h4, tr_cat, h2]
    have : (j == i) = false := by simpa using e
    rw [this]
    by_cases hc : j + 1 = i
    · have : ¬ (lg ls j).1 = 1 := fun h => h7 ⟨hc, h⟩
      rw [if_neg this]; simp
    · have : (j + 1 == i) = false := by simpa using hc
      rw [this]; rfl
theorem lr_st2 {sb b0 : Nat} {ad : Nat → Nat} {nL : Nat} {ls : List AV} {L' : Array Slot} {i : Nat} {v : AV} {V : Value} (hV : V = tr sb b0 ad v) (hl : ls.length = nL)
    (h : lv_has L' nL ((i, V) :: (prs sb b0 ad 0 ls).filter (fun q => !(q.1 == i) && (!(q.1 == i + 1) && !(q.1 + 1 == i && q.2.category == 2))))) : lr sb b0 ad nL (st2 ls i v) L' := by
  refine ⟨⟨h.1, h.2.1, fun q hq => ?_⟩, by rw [st2_len]; exact hl⟩
  obtain ⟨j, h1, h2, h3, h4⟩ := prs_mem.mp hq
  rw [Nat.zero_add] at h2
  apply h.2.2
  have hj1 : j ≠ i + 1 := by
    intro e
    subst e
    have hj : i + 1 < (lset (lkill ls i) i v).length := by rw [st2_len] at h1; rw [lset_len, lkill_len]; exact h1
    have : lg (st2 ls i v) (i + 1) = (9, 0) := lset_same hj
    rw [this] at h3; exact h3 rfl
  have h5 : lg (st2 ls i v) j = lg (lset (lkill ls i) i v) j := lset_ne hj1
  rw [h5] at h3 h4
  by_cases e : j = i
  · subst e
    have hj : j < (lkill ls j).length := by rw [st2_len] at h1; rw [lkill_len]; exact h1
    rw [lset_same hj] at h4
    have : q = (j, V) := Prod.ext h2 (by rw [h4, hV])
    rw [this]; exact List.mem_cons_self
  · rw [lset_ne e] at h3 h4
    obtain ⟨h6, h7⟩ := lr_kill e h3
    rw [h6] at h3 h4
    apply List.mem_cons_of_mem
    apply List.mem_filter.mpr
    refine ⟨prs_mem.mpr ⟨j, by rw [st2_len] at h1; exact h1, by omega, h3, h4⟩, ?_⟩
    rw [h4, tr_cat, h2]
    have e1 : (j == i) = false := by simpa using e
    have e2 : (j == i + 1) = false := by simpa using hj1
    rw [e1, e2]
    by_cases hc : j + 1 = i
    · have : ¬ (lg ls j).1 = 1 := fun h => h7 ⟨hc, h⟩
      rw [if_neg this]; simp
    · have : (j + 1 == i) = false := by simpa using hc
      rw [this]; rfl
