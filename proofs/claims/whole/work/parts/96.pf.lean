/-! texts: what a condition says, read from its bytes; what the code of it means -/
abbrev FE : Type := Nat → Int
abbrev FM : Type := FE → Option Int
abbrev PR : Type := Int ⊕ (Nat × FM)
def fau (f : Int) (i : Nat) : Int := -1000 * f - i
abbrev dig (c : Int) : Prop := 48 ≤ c ∧ c ≤ 57
abbrev isT (c : Int) : Prop := c = 42 ∨ c = 47 ∨ c = 37
abbrev isP (c : Int) : Prop := c = 43 ∨ c = 45
abbrev isS (c : Int) : Prop := c = 60 ∨ c = 62 ∨ c = 61
def lix (c : Int) : Int := idxOf [115, 100, 103, 109, 98, 97, 111, 119, 108, 104, 121, 113] 0 c
theorem lix_in (c : Int) : lix c < 12 := by
  unfold lix
  simp only [idxOf]
  repeat' split
  all_goals omega
/-- what a number reads: k digits may still come -/
def numL (q : Nat → Int) : Nat → Nat → Int → Int ⊕ (Nat × Int)
  | 0, i, v => if dig (q i) then .inl (fau 2 i) else .inr (i, v)
  | k + 1, i, v => if dig (q i) then numL q k (i + 1) (v * 10 + q i - 48) else .inr (i, v)
def NUM (q : Nat → Int) (i : Nat) : Int ⊕ (Nat × Int) := if dig (q i) then numL q 5 i 0 else .inl (fau 1 i)
def FACT (q : Nat → Int) (l : Nat) (sub : Nat → PR) (i : Nat) : PR :=
  if q i = 91 then (if l = 0 then .inl (fau 5 i) else match sub (i + 1) with
    | .inl e => .inl e
    | .inr (j, f) => if q j = 93 then .inr (j + 1, f) else .inl (fau 1 j))
  else if dig (q i) then (match NUM q i with
    | .inl e => .inl e
    | .inr (j, v) => .inr (j, fun _ => some v))
  else if 0 ≤ lix (q i) then .inr (i + 1, fun e => some (e (lix (q i)).toNat)) else .inl (fau 1 i)
def ap (c a b : Int) : Int := if c = 43 then w64 (a + b) else if c = 45 then w64 (a - b) else if c = 42 then w64 (a * b) else if c = 47 then (if b = 0 then 0 else w64 (Int.tdiv a b)) else if c = 37 then (if b = 0 then 0 else Int.tmod a b) else if c = 60 then (if a < b then 1 else 0) else if c = 62 then (if b < a then 1 else 0) else (if a = b then 1 else 0)
def binF (c : Int) (f g : FM) : FM := fun e => match f e with
  | none => none
  | some a => match g e with
    | none => none
    | some b => if (c = 47 ∨ c = 37) ∧ b = 0 then none else some (ap c a b)
def andF (f g : FM) : FM := fun e => match f e with
  | none => none
  | some a => if a = 0 then some 0 else g e
def orF (f g : FM) : FM := fun e => match f e with
  | none => none
  | some a => if a = 0 then g e else some 1
def notF (f : FM) : FM := fun e => match f e with
  | none => none
  | some a => some (1 - a)
def BoolF (f : FM) : Prop := ∀ e a, f e = some a → a = 0 ∨ a = 1
def tT (c : Int) : Bool := decide (isT c)
def tP (c : Int) : Bool := decide (isP c)
def chL (q : Nat → Int) (t : Int → Bool) (sub : Nat → PR) : Nat → Nat → FM → PR
  | 0, j, f => .inr (j, f)
  | k + 1, j, f => if t (q j) = true then (match sub (j + 1) with
    | .inl e => .inl e
    | .inr (j2, g) => chL q t sub k j2 (binF (q j) f g)) else .inr (j, f)
def CHN (q : Nat → Int) (t : Int → Bool) (sub : Nat → PR) (i : Nat) : PR := match sub i with
  | .inl e => .inl e
  | .inr (j, f) => chL q t sub 160 j f
def SUM (q : Nat → Int) : Nat → Nat → PR
  | 0 => CHN q tP (CHN q tT (FACT q 0 (fun _ => .inl (-1))))
  | l + 1 => CHN q tP (CHN q tT (FACT q (l + 1) (SUM q l)))
def CMP (q : Nat → Int) (sub : Nat → PR) (i : Nat) : PR := match sub i with
  | .inl e => .inl e
  | .inr (j, f) => if isS (q j) then (match sub (j + 1) with
    | .inl e => .inl e
    | .inr (j2, g) => .inr (j2, binF (q j) f g)) else .inl (fau 1 j)
def rch (q : Nat → Int) (c : Int) (jn : FM → FM → FM) (sub : Nat → PR) : Nat → Nat → PR
  | 0, i => sub i
  | k + 1, i => match sub i with
    | .inl e => .inl e
    | .inr (j, f) => if q j = c then (match rch q c jn sub k (j + 1) with
      | .inl e => .inl e
      | .inr (j2, g) => .inr (j2, jn f g)) else .inr (j, f)
def COND (q : Nat → Int) (sub : Nat → PR) : Nat → PR := rch q 124 orF (rch q 38 andF sub 160) 160
def PIECE (q : Nat → Int) : Nat → Nat → PR
  | 0, i => if q i = 33 ∨ q i = 40 then .inl (fau 5 i) else CMP q (SUM q 0) i
  | l + 1, i => if q i = 33 then (match PIECE q l (i + 1) with
    | .inl e => .inl e
    | .inr (j, f) => .inr (j, notF f))
    else if q i = 40 then (match COND q (PIECE q l) (i + 1) with
    | .inl e => .inl e
    | .inr (j, f) => if q j = 41 then .inr (j + 1, f) else .inl (fau 1 j))
    else CMP q (SUM q (l + 1)) i
/-! where it ends -/
/-- bytes q up to n, behind it nothing -/
def OQ (q : Nat → Int) (n : Nat) : Prop := (∀ p, n ≤ p → q p = -1) ∧ ∀ p, p < n → 0 ≤ q p ∧ q p < 256
def PSP (n : Nat) (sub : Nat → PR) : Prop := ∀ i, (∀ e, sub i = .inl e → e < 0) ∧ ∀ j f, sub i = .inr (j, f) → i < j ∧ j ≤ n
theorem OQ_lt {q : Nat → Int} {n : Nat} (h : OQ q n) {i : Nat} {c : Int} (hc : 0 ≤ c) (e : q i = c) : i < n := by
  by_cases k : n ≤ i
  · have := h.1 i k
    omega
  · omega
theorem fau_neg {f : Int} (h : 1 ≤ f) (i : Nat) : fau f i < 0 := by unfold fau; omega
theorem numL_ok {q : Nat → Int} {n : Nat} (h : OQ q n) : ∀ (k i : Nat) (v : Int), i ≤ n → (∀ e, numL q k i v = .inl e → e < 0) ∧ ∀ j w, numL q k i v = .inr (j, w) → i ≤ j ∧ j ≤ n ∧ ¬ dig (q j) := by
  intro k
  induction k with
  | zero =>
    intro i v hi
    unfold numL
    split
    · exact ⟨fun e he => (by cases he; exact fau_neg (by decide) _), fun j w he => by cases he⟩
    · rename_i c
      exact ⟨fun e he => (by cases he), fun j w he => by cases he; exact ⟨Nat.le_refl _, hi, c⟩⟩
  | succ k ih =>
    intro i v hi
    unfold numL
    split
    · rename_i c
      have hl : i < n := OQ_lt h (c := q i) (by omega) rfl
      obtain ⟨a, b⟩ := ih (i + 1) (v * 10 + q i - 48) (by omega)
      exact ⟨a, fun j w he => ⟨by have := (b j w he).1; omega, (b j w he).2⟩⟩
    · rename_i c
      exact ⟨fun e he => (by cases he), fun j w he => by cases he; exact ⟨Nat.le_refl _, hi, c⟩⟩
theorem NUM_ok {q : Nat → Int} {n : Nat} (h : OQ q n) (i : Nat) : (∀ e, NUM q i = .inl e → e < 0) ∧ ∀ j w, NUM q i = .inr (j, w) → i < j ∧ j ≤ n ∧ ¬ dig (q j) := by
  unfold NUM
  split
  · rename_i c
    have hl : i < n := OQ_lt h (c := q i) (by omega) rfl
    obtain ⟨a, b⟩ := numL_ok h 4 (i + 1) (0 * 10 + q i - 48) (by omega)
    have e0 : numL q 5 i 0 = numL q 4 (i + 1) (0 * 10 + q i - 48) := by
      show (if dig (q i) then _ else _) = _
      rw [if_pos c]
    rw [e0]
    exact ⟨a, fun j w he => ⟨by have := (b j w he).1; omega, (b j w he).2⟩⟩
  · exact ⟨fun e he => (by cases he; exact fau_neg (by decide) _), fun j w he => by cases he⟩
theorem numL_v {q : Nat → Int} : ∀ (k i : Nat) (v m : Int) (j : Nat) (w : Int), numL q k i v = .inr (j, w) → 0 ≤ v → v ≤ m → 0 ≤ w ∧ w ≤ (m + 1) * 10 ^ k - 1 := by
  intro k
  induction k with
  | zero =>
    intro i v m j w he h0 h1
    unfold numL at he
    split at he
    · cases he
    · cases he
      exact ⟨h0, by show _ ≤ (m + 1) * 1 - 1; omega⟩
  | succ k ih =>
    intro i v m j w he h0 h1
    unfold numL at he
    split at he
    · rename_i c
      have := ih (i + 1) (v * 10 + q i - 48) (m * 10 + 9) j w he (by omega) (by omega)
      refine ⟨this.1, Int.le_trans this.2 (Int.le_of_eq ?_)⟩
      rw [Int.pow_succ, show m * 10 + 9 + 1 = (m + 1) * 10 by omega, Int.mul_assoc, Int.mul_comm 10]
    · cases he
      have hp : (1 : Int) ≤ 10 ^ (k + 1) := Int.pow_pos (by decide)
      have : (m + 1) * 1 ≤ (m + 1) * 10 ^ (k + 1) := Int.mul_le_mul_of_nonneg_left hp (by omega)
      exact ⟨h0, by omega⟩
theorem NUM_v {q : Nat → Int} {i j : Nat} {w : Int} (h : NUM q i = .inr (j, w)) : 0 ≤ w ∧ w ≤ 99999 := by
  unfold NUM at h
  split at h
  · exact numL_v 5 i 0 0 j w h (by decide) (by decide)
  · cases h
theorem FACT_ok {q : Nat → Int} {n l : Nat} {sub : Nat → PR} (h : OQ q n) (hs : l = 0 ∨ PSP n sub) : PSP n (FACT q l sub) := by
  intro i
  unfold FACT
  split
  · rename_i c
    have hl := OQ_lt h (by decide) c
    split
    · exact ⟨fun e he => (by cases he; exact fau_neg (by decide) _), fun j w he => by cases he⟩
    · rename_i c2
      have hs' := (hs.resolve_left c2) (i + 1)
      split
      · rename_i e he0
        exact ⟨fun e' he => (by cases he; exact hs'.1 _ he0), fun j w he => by cases he⟩
      · rename_i j f he0
        have hj := hs'.2 _ _ he0
        split
        · rename_i c3
          have := OQ_lt h (by decide) c3
          exact ⟨fun e he => (by cases he), fun j' w he => by cases he; omega⟩
        · exact ⟨fun e he => (by cases he; exact fau_neg (by decide) _), fun j w he => by cases he⟩
  · split
    · have hn := NUM_ok h i
      split
      · rename_i e he0
        exact ⟨fun e' he => (by cases he; exact hn.1 _ he0), fun j w he => by cases he⟩
      · rename_i j f he0
        have hj := hn.2 _ _ he0
        exact ⟨fun e he => (by cases he), fun j' w he => by cases he; omega⟩
    · split
      · rename_i c1 c2 c3
        have hl : i < n := by
          by_cases k : n ≤ i
          · rw [h.1 i k] at c3
            exact absurd c3 (by decide)
          · omega
        exact ⟨fun e he => (by cases he), fun j' w he => by cases he; omega⟩
      · exact ⟨fun e he => (by cases he; exact fau_neg (by decide) _), fun j w he => by cases he⟩
theorem chL_ok {q : Nat → Int} {n : Nat} {t : Int → Bool} {sub : Nat → PR} (hs : PSP n sub) : ∀ (k j : Nat) (f : FM), j ≤ n → (∀ e, chL q t sub k j f = .inl e → e < 0) ∧ ∀ j2 g, chL q t sub k j f = .inr (j2, g) → j ≤ j2 ∧ j2 ≤ n := by
  intro k
  induction k with
  | zero =>
    intro j f hj
    unfold chL
    exact ⟨fun e he => (by cases he), fun j2 g he => by cases he; exact ⟨Nat.le_refl _, hj⟩⟩
  | succ k ih =>
    intro j f hj
    unfold chL
    split
    · have h1 := hs (j + 1)
      split
      · rename_i e he0
        exact ⟨fun e' he => (by cases he; exact h1.1 _ he0), fun j w he => by cases he⟩
      · rename_i j2 g he0
        have h2 := h1.2 _ _ he0
        obtain ⟨a, b⟩ := ih j2 (binF (q j) f g) h2.2
        exact ⟨a, fun j3 w he => ⟨by have := (b j3 w he).1; omega, (b j3 w he).2⟩⟩
    · exact ⟨fun e he => (by cases he), fun j2 g he => by cases he; exact ⟨Nat.le_refl _, hj⟩⟩
theorem CHN_ok {q : Nat → Int} {n : Nat} {t : Int → Bool} {sub : Nat → PR} (hs : PSP n sub) : PSP n (CHN q t sub) := by
  intro i
  unfold CHN
  have h1 := hs i
  split
  · rename_i e he0
    exact ⟨fun e' he => (by cases he; exact h1.1 _ he0), fun j w he => by cases he⟩
  · rename_i j f he0
    have h2 := h1.2 _ _ he0
    obtain ⟨a, b⟩ := chL_ok (q := q) (t := t) hs 160 j f h2.2
    exact ⟨a, fun j3 w he => ⟨by have := (b j3 w he).1; omega, (b j3 w he).2⟩⟩
theorem SUM_ok {q : Nat → Int} {n : Nat} (h : OQ q n) : ∀ l, PSP n (SUM q l)
  | 0 => CHN_ok (CHN_ok (FACT_ok h (Or.inl rfl)))
  | l + 1 => CHN_ok (CHN_ok (FACT_ok h (Or.inr (SUM_ok h l))))
theorem CMP_ok {q : Nat → Int} {n : Nat} {sub : Nat → PR} (hs : PSP n sub) : PSP n (CMP q sub) := by
  intro i
  unfold CMP
  have h1 := hs i
  split
  · rename_i e he0
    exact ⟨fun e' he => (by cases he; exact h1.1 _ he0), fun j w he => by cases he⟩
  · rename_i j f he0
    have h2 := h1.2 _ _ he0
    have h3 := hs (j + 1)
    split
    · split
      · rename_i e he1
        exact ⟨fun e' he => (by cases he; exact h3.1 _ he1), fun j w he => by cases he⟩
      · rename_i j2 g he1
        have h4 := h3.2 _ _ he1
        exact ⟨fun e he => (by cases he), fun j' w he => by cases he; omega⟩
    · exact ⟨fun e he => (by cases he; exact fau_neg (by decide) _), fun j w he => by cases he⟩
theorem rch_ok {q : Nat → Int} {n : Nat} {c : Int} {jn : FM → FM → FM} {sub : Nat → PR} (hs : PSP n sub) : ∀ k, PSP n (rch q c jn sub k) := by
  intro k
  induction k with
  | zero => exact hs
  | succ k ih =>
    intro i
    unfold rch
    have h1 := hs i
    split
    · rename_i e he0
      exact ⟨fun e' he => (by cases he; exact h1.1 _ he0), fun j w he => by cases he⟩
    · rename_i j f he0
      have h2 := h1.2 _ _ he0
      have h3 := ih (j + 1)
      split
      · split
        · rename_i e he1
          exact ⟨fun e' he => (by cases he; exact h3.1 _ he1), fun j w he => by cases he⟩
        · rename_i j2 g he1
          have h4 := h3.2 _ _ he1
          exact ⟨fun e he => (by cases he), fun j' w he => by cases he; omega⟩
      · exact ⟨fun e he => (by cases he), fun j' w he => by cases he; omega⟩
theorem COND_ok {q : Nat → Int} {n : Nat} {sub : Nat → PR} (hs : PSP n sub) : PSP n (COND q sub) := rch_ok (rch_ok hs _) _
theorem PIECE_ok {q : Nat → Int} {n : Nat} (h : OQ q n) : ∀ l, PSP n (PIECE q l) := by
  intro l
  induction l with
  | zero =>
    intro i
    unfold PIECE
    split
    · exact ⟨fun e he => (by cases he; exact fau_neg (by decide) _), fun j w he => by cases he⟩
    · exact CMP_ok (SUM_ok h 0) i
  | succ l ih =>
    intro i
    unfold PIECE
    split
    · have h1 := ih (i + 1)
      split
      · rename_i e he0
        exact ⟨fun e' he => (by cases he; exact h1.1 _ he0), fun j w he => by cases he⟩
      · rename_i j f he0
        have h2 := h1.2 _ _ he0
        exact ⟨fun e he => (by cases he), fun j' w he => by cases he; omega⟩
    · split
      · have h1 := COND_ok (q := q) ih (i + 1)
        split
        · rename_i e he0
          exact ⟨fun e' he => (by cases he; exact h1.1 _ he0), fun j w he => by cases he⟩
        · rename_i j f he0
          have h2 := h1.2 _ _ he0
          split
          · rename_i c3
            have := OQ_lt h (by decide) c3
            exact ⟨fun e he => (by cases he), fun j' w he => by cases he; omega⟩
          · exact ⟨fun e he => (by cases he; exact fau_neg (by decide) _), fun j w he => by cases he⟩
      · exact CMP_ok (SUM_ok h (l + 1)) i
/-! yes or no -/
theorem BoolF_s {c : Int} {f g : FM} (h : isS c) : BoolF (binF c f g) := by
  intro e a he
  unfold binF at he
  split at he
  · cases he
  · split at he
    · cases he
    · split at he
      · cases he
      · cases he
        unfold ap
        rcases h with h | h | h <;> subst h <;> simp <;> omega
theorem BoolF_not {f : FM} (h : BoolF f) : BoolF (notF f) := by
  intro e a he
  unfold notF at he
  split at he
  · cases he
  · rename_i b hb
    cases he
    have := h e b hb
    omega
theorem BoolF_and {f g : FM} (hg : BoolF g) : BoolF (andF f g) := by
  intro e a he
  unfold andF at he
  split at he
  · cases he
  · split at he
    · cases he
      exact Or.inl rfl
    · exact hg e a he
theorem BoolF_or {f g : FM} (hg : BoolF g) : BoolF (orF f g) := by
  intro e a he
  unfold orF at he
  split at he
  · cases he
  · split at he
    · exact hg e a he
    · cases he
      exact Or.inr rfl
theorem andF_as (f g h : FM) : andF (andF f g) h = andF f (andF g h) := by
  funext e
  unfold andF
  cases f e with
  | none => rfl
  | some a =>
    dsimp only
    by_cases c : a = 0
    · simp only [if_pos c, if_true]
    · simp only [if_neg c]
theorem orF_as (f g h : FM) : orF (orF f g) h = orF f (orF g h) := by
  funext e
  unfold orF
  cases f e with
  | none => rfl
  | some a =>
    dsimp only
    by_cases c : a = 0
    · simp only [if_pos c]
    · simp only [if_neg c]
      rfl
def PSB (sub : Nat → PR) : Prop := ∀ i j f, sub i = .inr (j, f) → BoolF f
theorem CMP_b {q : Nat → Int} {sub : Nat → PR} : PSB (CMP q sub) := by
  intro i j f he
  unfold CMP at he
  split at he
  · cases he
  · split at he
    · rename_i c
      split at he
      · cases he
      · cases he
        exact BoolF_s c
    · cases he
theorem rch_b {q : Nat → Int} {c : Int} {jn : FM → FM → FM} {sub : Nat → PR} (hj : ∀ f g, BoolF g → BoolF (jn f g)) (hs : PSB sub) : ∀ k, PSB (rch q c jn sub k) := by
  intro k
  induction k with
  | zero => exact hs
  | succ k ih =>
    intro i j f he
    unfold rch at he
    split at he
    · cases he
    · rename_i j1 f1 h1
      split at he
      · split at he
        · cases he
        · rename_i j2 g h2
          cases he
          exact hj _ _ (ih _ _ _ h2)
      · cases he
        exact hs _ _ _ h1
theorem COND_b {q : Nat → Int} {sub : Nat → PR} (hs : PSB sub) : PSB (COND q sub) := rch_b (fun _ _ => BoolF_or) (rch_b (fun _ _ => BoolF_and) hs _) _
theorem PIECE_b {q : Nat → Int} : ∀ l, PSB (PIECE q l) := by
  intro l
  induction l with
  | zero =>
    intro i j f he
    unfold PIECE at he
    split at he
    · cases he
    · exact CMP_b _ _ _ he
  | succ l ih =>
    intro i j f he
    unfold PIECE at he
    split at he
    · split at he
      · cases he
      · rename_i j1 f1 h1
        cases he
        exact BoolF_not (ih _ _ _ h1)
    · split at he
      · split at he
        · cases he
        · rename_i j1 f1 h1
          split at he
          · cases he
            exact COND_b ih _ _ _ h1
          · cases he
      · exact CMP_b _ _ _ he
/-! the codes -/
abbrev isO (c : Int) : Prop := isT c ∨ isP c ∨ isS c
/-- what a reading of the first code keeps -/
def ClC (P : Nat → Prop) (co : Nat → Int) (R : Nat → Nat → Nat → FM → Prop) : Prop :=
  (∀ {a d : Nat} {v : Int}, co a = v * 256 + 110 → 0 ≤ v → v ≤ 99999 → R a (a + 1) (d + 1) (fun _ => some v)) ∧
  (∀ {a d k : Nat}, co a = (k : Int) * 256 + 108 → k < 12 → P k → R a (a + 1) (d + 1) (fun e => some (e k))) ∧
  (∀ {a m b d : Nat} {c : Int} {f g : FM}, R a m (d + 1) f → R m b d g → co b = c → isO c → R a (b + 1) (d + 1) (binF c f g)) ∧
  (∀ {a b d : Nat} {f : FM}, R a b d f → co b = 33 → BoolF f → R a (b + 1) d (notF f)) ∧
  (∀ {a m b d : Nat} {f g : FM}, R a m d f → co m = (b : Int) * 256 + 38 → R (m + 1) b d g → b ≤ 160 → BoolF f → BoolF g → R a b d (andF f g)) ∧
  (∀ {a m b d : Nat} {f g : FM}, R a m d f → co m = (b : Int) * 256 + 124 → R (m + 1) b d g → b ≤ 160 → BoolF f → BoolF g → R a b d (orF f g))
/-- the first code from a to b says f; d places of the stack suffice; it asks the letters of P -/
def Cd (P : Nat → Prop) (co : Nat → Int) (a b d : Nat) (f : FM) : Prop := ∀ R : Nat → Nat → Nat → FM → Prop, ClC P co R → R a b d f
/-- what a reading of the second code keeps -/
def ClR (co ar : Nat → Int) (R : Nat → Nat → FM → Prop) : Prop :=
  (∀ {a : Nat} {v : Int}, co a = 0 → ar a = v → 0 ≤ v → v ≤ 99999 → R a (a + 1) (fun _ => some v)) ∧
  (∀ {a k : Nat}, co a = 1 → 0 ≤ ar a → ar a < 128 → lix (ar a) = k → R a (a + 1) (fun e => some (e k))) ∧
  (∀ {a m b : Nat} {c : Int} {f g : FM}, R a m f → R m b g → co b = c → isO c → R a (b + 1) (binF c f g)) ∧
  (∀ {a b : Nat} {f : FM}, R a b f → co b = 2 → BoolF f → R a (b + 1) (notF f)) ∧
  (∀ {a m b : Nat} {f g : FM}, R a m f → R m b g → co b = 38 → BoolF f → BoolF g → R a (b + 1) (andF f g)) ∧
  (∀ {a m b : Nat} {f g : FM}, R a m f → R m b g → co b = 124 → BoolF f → BoolF g → R a (b + 1) (orF f g))
/-- the second code from a to b says f -/
def Cr (co ar : Nat → Int) (a b : Nat) (f : FM) : Prop := ∀ R : Nat → Nat → FM → Prop, ClR co ar R → R a b f
section CC0
variable {P : Nat → Prop} {co ar : Nat → Int} {a b m d k : Nat} {v c : Int} {f g : FM}
theorem Cd_cl : ClC P co (Cd P co) :=
  ⟨fun h1 h2 h3 R hR => hR.1 h1 h2 h3, fun h1 h2 h3 R hR => hR.2.1 h1 h2 h3, fun h1 h2 h3 h4 R hR => hR.2.2.1 (h1 R hR) (h2 R hR) h3 h4, fun h1 h2 h3 R hR => hR.2.2.2.1 (h1 R hR) h2 h3, fun h1 h2 h3 h4 h5 h6 R hR => hR.2.2.2.2.1 (h1 R hR) h2 (h3 R hR) h4 h5 h6, fun h1 h2 h3 h4 h5 h6 R hR => hR.2.2.2.2.2 (h1 R hR) h2 (h3 R hR) h4 h5 h6⟩
theorem Cr_cl : ClR co ar (Cr co ar) :=
  ⟨fun h1 h2 h3 h4 R hR => hR.1 h1 h2 h3 h4, fun h1 h2 h3 h4 R hR => hR.2.1 h1 h2 h3 h4, fun h1 h2 h3 h4 R hR => hR.2.2.1 (h1 R hR) (h2 R hR) h3 h4, fun h1 h2 h3 R hR => hR.2.2.2.1 (h1 R hR) h2 h3, fun h1 h2 h3 h4 h5 R hR => hR.2.2.2.2.1 (h1 R hR) (h2 R hR) h3 h4 h5, fun h1 h2 h3 h4 h5 R hR => hR.2.2.2.2.2 (h1 R hR) (h2 R hR) h3 h4 h5⟩
/-- by steps -/
theorem Cd_ind {Q : Nat → Nat → Nat → FM → Prop} (h : Cd P co a b d f)
    (h1 : ∀ {a d : Nat} {v : Int}, co a = v * 256 + 110 → 0 ≤ v → v ≤ 99999 → Q a (a + 1) (d + 1) (fun _ => some v))
    (h2 : ∀ {a d k : Nat}, co a = (k : Int) * 256 + 108 → k < 12 → P k → Q a (a + 1) (d + 1) (fun e => some (e k)))
    (h3 : ∀ {a m b d : Nat} {c : Int} {f g : FM}, Cd P co a m (d + 1) f → Cd P co m b d g → co b = c → isO c → Q a m (d + 1) f → Q m b d g → Q a (b + 1) (d + 1) (binF c f g))
    (h4 : ∀ {a b d : Nat} {f : FM}, Cd P co a b d f → co b = 33 → BoolF f → Q a b d f → Q a (b + 1) d (notF f))
    (h5 : ∀ {a m b d : Nat} {f g : FM}, Cd P co a m d f → co m = (b : Int) * 256 + 38 → Cd P co (m + 1) b d g → b ≤ 160 → BoolF f → BoolF g → Q a m d f → Q (m + 1) b d g → Q a b d (andF f g))
    (h6 : ∀ {a m b d : Nat} {f g : FM}, Cd P co a m d f → co m = (b : Int) * 256 + 124 → Cd P co (m + 1) b d g → b ≤ 160 → BoolF f → BoolF g → Q a m d f → Q (m + 1) b d g → Q a b d (orF f g)) : Q a b d f :=
  (h (fun a b d f => Cd P co a b d f ∧ Q a b d f) ⟨fun k1 k2 k3 => ⟨Cd_cl.1 k1 k2 k3, h1 k1 k2 k3⟩, fun k1 k2 k3 => ⟨Cd_cl.2.1 k1 k2 k3, h2 k1 k2 k3⟩, fun k1 k2 k3 k4 => ⟨Cd_cl.2.2.1 k1.1 k2.1 k3 k4, h3 k1.1 k2.1 k3 k4 k1.2 k2.2⟩, fun k1 k2 k3 => ⟨Cd_cl.2.2.2.1 k1.1 k2 k3, h4 k1.1 k2 k3 k1.2⟩, fun k1 k2 k3 k4 k5 k6 => ⟨Cd_cl.2.2.2.2.1 k1.1 k2 k3.1 k4 k5 k6, h5 k1.1 k2 k3.1 k4 k5 k6 k1.2 k3.2⟩, fun k1 k2 k3 k4 k5 k6 => ⟨Cd_cl.2.2.2.2.2 k1.1 k2 k3.1 k4 k5 k6, h6 k1.1 k2 k3.1 k4 k5 k6 k1.2 k3.2⟩⟩).2
theorem Cr_ind {Q : Nat → Nat → FM → Prop} (h : Cr co ar a b f)
    (h1 : ∀ {a : Nat} {v : Int}, co a = 0 → ar a = v → 0 ≤ v → v ≤ 99999 → Q a (a + 1) (fun _ => some v))
    (h2 : ∀ {a k : Nat}, co a = 1 → 0 ≤ ar a → ar a < 128 → lix (ar a) = k → Q a (a + 1) (fun e => some (e k)))
    (h3 : ∀ {a m b : Nat} {c : Int} {f g : FM}, Cr co ar a m f → Cr co ar m b g → co b = c → isO c → Q a m f → Q m b g → Q a (b + 1) (binF c f g))
    (h4 : ∀ {a b : Nat} {f : FM}, Cr co ar a b f → co b = 2 → BoolF f → Q a b f → Q a (b + 1) (notF f))
    (h5 : ∀ {a m b : Nat} {f g : FM}, Cr co ar a m f → Cr co ar m b g → co b = 38 → BoolF f → BoolF g → Q a m f → Q m b g → Q a (b + 1) (andF f g))
    (h6 : ∀ {a m b : Nat} {f g : FM}, Cr co ar a m f → Cr co ar m b g → co b = 124 → BoolF f → BoolF g → Q a m f → Q m b g → Q a (b + 1) (orF f g)) : Q a b f :=
  (h (fun a b f => Cr co ar a b f ∧ Q a b f) ⟨fun k1 k2 k3 k4 => ⟨Cr_cl.1 k1 k2 k3 k4, h1 k1 k2 k3 k4⟩, fun k1 k2 k3 k4 => ⟨Cr_cl.2.1 k1 k2 k3 k4, h2 k1 k2 k3 k4⟩, fun k1 k2 k3 k4 => ⟨Cr_cl.2.2.1 k1.1 k2.1 k3 k4, h3 k1.1 k2.1 k3 k4 k1.2 k2.2⟩, fun k1 k2 k3 => ⟨Cr_cl.2.2.2.1 k1.1 k2 k3, h4 k1.1 k2 k3 k1.2⟩, fun k1 k2 k3 k4 k5 => ⟨Cr_cl.2.2.2.2.1 k1.1 k2.1 k3 k4 k5, h5 k1.1 k2.1 k3 k4 k5 k1.2 k2.2⟩, fun k1 k2 k3 k4 k5 => ⟨Cr_cl.2.2.2.2.2 k1.1 k2.1 k3 k4 k5, h6 k1.1 k2.1 k3 k4 k5 k1.2 k2.2⟩⟩).2
theorem Cd_lt (h : Cd P co a b d f) : a < b ∧ 0 < d :=
  Cd_ind (Q := fun a b d _ => a < b ∧ 0 < d) h (fun _ _ _ => by omega) (fun _ _ _ => by omega) (fun _ _ _ _ i1 i2 => by omega) (fun _ _ _ i => by omega) (fun _ _ _ _ _ _ i1 i2 => by omega) (fun _ _ _ _ _ _ i1 i2 => by omega)
theorem Cr_lt (h : Cr co ar a b f) : a < b :=
  Cr_ind (Q := fun a b _ => a < b) h (fun _ _ _ _ => by omega) (fun _ _ _ _ => by omega) (fun _ _ _ _ i1 i2 => by omega) (fun _ _ _ i => by omega) (fun _ _ _ _ _ i1 i2 => by omega) (fun _ _ _ _ _ i1 i2 => by omega)
theorem Cd_m {P' : Nat → Prop} {co' : Nat → Int} (h : Cd P co a b d f) (hP : ∀ k, P k → P' k) : ∀ d', d ≤ d' → (∀ x, a ≤ x → x < b → co' x = co x) → Cd P' co' a b d' f := by
  refine Cd_ind (Q := fun a b d f => ∀ d', d ≤ d' → (∀ x, a ≤ x → x < b → co' x = co x) → Cd P' co' a b d' f) h ?_ ?_ ?_ ?_ ?_ ?_
  · intro a d v h1 h2 h3 d' hd hc
    obtain ⟨e, rfl⟩ : ∃ e, d' = e + 1 := ⟨d' - 1, by omega⟩
    exact Cd_cl.1 ((hc _ (by omega) (by omega)).trans h1) h2 h3
  · intro a d k h1 h2 h3 d' hd hc
    obtain ⟨e, rfl⟩ : ∃ e, d' = e + 1 := ⟨d' - 1, by omega⟩
    exact Cd_cl.2.1 ((hc _ (by omega) (by omega)).trans h1) h2 (hP _ h3)
  · intro a m b d c f g k1 k2 h3 h4 i1 i2 d' hd hc
    obtain ⟨e, rfl⟩ : ∃ e, d' = e + 1 := ⟨d' - 1, by omega⟩
    have l1 := Cd_lt k1
    have l2 := Cd_lt k2
    exact Cd_cl.2.2.1 (i1 (e + 1) hd (fun x p1 p2 => hc x p1 (by omega))) (i2 e (by omega) (fun x p1 p2 => hc x (by omega) (by omega))) ((hc _ (by omega) (by omega)).trans h3) h4
  · intro a b d f k1 h2 h3 i1 d' hd hc
    have l1 := Cd_lt k1
    exact Cd_cl.2.2.2.1 (i1 d' hd (fun x p1 p2 => hc x p1 (by omega))) ((hc _ (by omega) (by omega)).trans h2) h3
  · intro a m b d f g k1 h2 k3 h4 h5 h6 i1 i3 d' hd hc
    have l1 := Cd_lt k1
    have l2 := Cd_lt k3
    exact Cd_cl.2.2.2.2.1 (i1 d' hd (fun x p1 p2 => hc x p1 (by omega))) ((hc _ (by omega) (by omega)).trans h2) (i3 d' hd (fun x p1 p2 => hc x (by omega) p2)) h4 h5 h6
  · intro a m b d f g k1 h2 k3 h4 h5 h6 i1 i3 d' hd hc
    have l1 := Cd_lt k1
    have l2 := Cd_lt k3
    exact Cd_cl.2.2.2.2.2 (i1 d' hd (fun x p1 p2 => hc x p1 (by omega))) ((hc _ (by omega) (by omega)).trans h2) (i3 d' hd (fun x p1 p2 => hc x (by omega) p2)) h4 h5 h6
theorem Cr_m {co' ar' : Nat → Int} (h : Cr co ar a b f) : (∀ x, a ≤ x → x < b → co' x = co x ∧ ar' x = ar x) → Cr co' ar' a b f := by
  refine Cr_ind (Q := fun a b f => (∀ x, a ≤ x → x < b → co' x = co x ∧ ar' x = ar x) → Cr co' ar' a b f) h ?_ ?_ ?_ ?_ ?_ ?_
  · intro a v h1 h2 h3 h4 hc
    have q := hc _ (Nat.le_refl _) (Nat.lt_succ_self _)
    exact Cr_cl.1 (q.1.trans h1) (q.2.trans h2) h3 h4
  · intro a k h1 h2 h3 h4 hc
    have q := hc _ (Nat.le_refl _) (Nat.lt_succ_self _)
    exact Cr_cl.2.1 (q.1.trans h1) (by rw [q.2]; exact h2) (by rw [q.2]; exact h3) (by rw [q.2]; exact h4)
  · intro a m b c f g k1 k2 h3 h4 i1 i2 hc
    have l1 := Cr_lt k1
    have l2 := Cr_lt k2
    exact Cr_cl.2.2.1 (i1 (fun x p1 p2 => hc x p1 (by omega))) (i2 (fun x p1 p2 => hc x (by omega) (by omega))) ((hc _ (by omega) (by omega)).1.trans h3) h4
  · intro a b f k1 h2 h3 i1 hc
    have l1 := Cr_lt k1
    exact Cr_cl.2.2.2.1 (i1 (fun x p1 p2 => hc x p1 (by omega))) ((hc _ (by omega) (by omega)).1.trans h2) h3
  · intro a m b f g k1 k2 h3 h4 h5 i1 i2 hc
    have l1 := Cr_lt k1
    have l2 := Cr_lt k2
    exact Cr_cl.2.2.2.2.1 (i1 (fun x p1 p2 => hc x p1 (by omega))) (i2 (fun x p1 p2 => hc x (by omega) (by omega))) ((hc _ (by omega) (by omega)).1.trans h3) h4 h5
  · intro a m b f g k1 k2 h3 h4 h5 i1 i2 hc
    have l1 := Cr_lt k1
    have l2 := Cr_lt k2
    exact Cr_cl.2.2.2.2.2 (i1 (fun x p1 p2 => hc x p1 (by omega))) (i2 (fun x p1 p2 => hc x (by omega) (by omega))) ((hc _ (by omega) (by omega)).1.trans h3) h4 h5
end CC0

