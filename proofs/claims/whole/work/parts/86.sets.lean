/-! sets as small numbers; the greatest of those that can be -/
theorem shl_n {j : Nat} (h : j < 31) : shl32 1 (j : Int) = ((2 ^ j : Nat) : Int) := by
  have e1 : ((j : Int) % 32).toNat = j := by omega
  have e2 : (2 : Nat) ^ j < 2 ^ 31 := Nat.pow_lt_pow_right (by omega) h
  have e3 : ((2 : Int) ^ j) = ((2 ^ j : Nat) : Int) := by rw [Int.natCast_pow]; rfl
  show w32 (1 * 2 ^ ((j : Int) % 32).toNat) = _
  rw [e1, Int.one_mul, e3]
  generalize 2 ^ j = q at *
  exact w32_of (by omega) (by omega)
theorem shr_n {x j : Nat} (h : j < 32) : shr32 (x : Int) (j : Int) = ((x / 2 ^ j : Nat) : Int) := by
  have e1 : ((j : Int) % 32).toNat = j := by omega
  show (x : Int) / 2 ^ ((j : Int) % 32).toNat = _
  rw [e1, Int.natCast_ediv, Int.natCast_pow]; rfl
def rowN (c : Nat → Prop) [DecidablePred c] (n : Nat) : Nat := itr (fun (j : Nat) (b : Nat) => if c j then b ||| 2 ^ j else b) n 0
theorem rowN_lt {c : Nat → Prop} [DecidablePred c] : ∀ n, rowN c n < 2 ^ n
  | 0 => Nat.one_pos
  | n + 1 => by
    have ih := rowN_lt (c := c) n
    have h2 : (2 : Nat) ^ n < 2 ^ (n + 1) := Nat.pow_lt_pow_right (by omega) (by omega)
    show (if c n then rowN c n ||| 2 ^ n else rowN c n) < _
    split
    · exact Nat.or_lt_two_pow (by omega) h2
    · omega
theorem rowN_bit {c : Nat → Prop} [DecidablePred c] {j : Nat} : ∀ n, (rowN c n).testBit j = true ↔ (j < n ∧ c j)
  | 0 => by
    show (0 : Nat).testBit j = true ↔ _
    rw [Nat.zero_testBit]
    constructor
    · intro h; exact absurd h (by decide)
    · intro h; omega
  | n + 1 => by
    have ih := rowN_bit (c := c) (j := j) n
    show (if c n then rowN c n ||| 2 ^ n else rowN c n).testBit j = true ↔ _
    by_cases q : c n
    · rw [if_pos q, Nat.testBit_or, Bool.or_eq_true, ih, Nat.testBit_two_pow, decide_eq_true_iff]
      constructor
      · rintro (h | h)
        · exact ⟨by omega, h.2⟩
        · subst h; exact ⟨by omega, q⟩
      · rintro ⟨h1, h2⟩
        by_cases e : n = j
        · exact Or.inr e
        · exact Or.inl ⟨by omega, h2⟩
    · rw [if_neg q, ih]
      constructor
      · intro h; exact ⟨by omega, h.2⟩
      · rintro ⟨h1, h2⟩
        have : ¬ j = n := fun e => q (e ▸ h2)
        exact ⟨by omega, h2⟩
theorem p16 {n : Nat} (h : n ≤ 16) : (2 : Nat) ^ n ≤ 65536 := Nat.pow_le_pow_right (show 0 < 2 by omega) h
theorem clrow_n {I : Nat → Nat → Int} {i : Nat} : ∀ n, n ≤ 16 → clrow I i n = ((rowN (clp I i) n : Nat) : Int)
  | 0, _ => rfl
  | n + 1, h => by
    have ih := clrow_n (I := I) (i := i) n (by omega)
    have l := rowN_lt (c := clp I i) n
    have l2 := p16 (n := n) (by omega)
    show (if clp I i n then io32 (clrow I i n) (shl32 1 (n : Int)) else clrow I i n) = (((if clp I i n then rowN (clp I i) n ||| 2 ^ n else rowN (clp I i) n) : Nat) : Int)
    rw [ih]
    split
    · rw [shl_n (by omega)]
      exact io_n (by omega) (by omega)
    · rfl
theorem frst_n {c : Nat → Prop} [DecidablePred c] : ∀ {f j : Nat}, frst c f j = -1 ↔ ∀ i, j ≤ i → i < j + f → ¬ c i
  | 0, j => by
    constructor
    · intro _ i h1 h2; omega
    · intro _; rfl
  | f + 1, j => by
    have ih := frst_n (c := c) (f := f) (j := j + 1)
    unfold frst
    by_cases q : c j
    · rw [if_pos q]
      constructor
      · intro h; omega
      · intro h; exact absurd q (h j (by omega) (by omega))
    · rw [if_neg q, ih]
      constructor
      · intro h i h1 h2
        by_cases e : i = j
        · rw [e]; exact q
        · exact h i (by omega) (by omega)
      · intro h i h1 h2; exact h i (by omega) (by omega)
theorem bit_n {S i : Nat} (hS : S < 65536) (hi : i < 32) : ¬ ia32 (shr32 (S : Int) (i : Int)) 1 = 0 ↔ S.testBit i = true := by
  have l : S / 2 ^ i ≤ S := Nat.div_le_self _ _
  rw [shr_n hi, show ia32 ((S / 2 ^ i : Nat) : Int) 1 = ((S / 2 ^ i &&& 1 : Nat) : Int) from ia_n (y := 1) (by omega) (by omega), Nat.and_one_is_mod, Nat.testBit_eq_decide_div_mod_eq, decide_eq_true_iff]
  omega
theorem and_n {x y : Nat} : ¬ x &&& y = 0 ↔ ∃ j, x.testBit j = true ∧ y.testBit j = true := by
  constructor
  · intro h
    refine Classical.byContradiction fun q => h (Nat.eq_of_testBit_eq fun j => ?_)
    rw [Nat.testBit_and, Nat.zero_testBit]
    cases h1 : x.testBit j
    · rfl
    · cases h2 : y.testBit j
      · rfl
      · exact absurd ⟨j, h1, h2⟩ q
  · rintro ⟨j, h1, h2⟩ h
    have : (x &&& y).testBit j = true := by rw [Nat.testBit_and, h1, h2]; rfl
    rw [h, Nat.zero_testBit] at this
    exact absurd this (by decide)
def IND (c : Nat → Nat → Prop) (n S : Nat) : Prop := ∀ i j, i < n → j < n → S.testBit i = true → S.testBit j = true → ¬ c i j
theorem ind_n {c : Nat → Nat → Prop} [∀ i, DecidablePred (c i)] {n S : Nat} {r : Nat → Int} (hn : n ≤ 16) (hr : ∀ i, i < n → r i = ((rowN (c i) n : Nat) : Int)) (hS : S < 65536) : frst (bad r (S : Int)) n 0 = -1 ↔ IND c n S := by
  rw [frst_n]
  have l2 := p16 hn
  have e : ∀ i, i < n → (bad r (S : Int) i ↔ S.testBit i = true ∧ ∃ j, (j < n ∧ c i j) ∧ S.testBit j = true) := by
    intro i hi
    have l := rowN_lt (c := c i) n
    unfold bad
    rw [bit_n hS (by omega), hr i hi, ia_n (by omega) (by omega), show (¬ ((rowN (c i) n &&& S : Nat) : Int) = 0) ↔ ¬ (rowN (c i) n &&& S) = 0 from by omega, and_n]
    refine and_congr_right fun _ => exists_congr fun j => ?_
    rw [rowN_bit]
  constructor
  · intro h i j hi hj h1 h2 h3
    exact h i (Nat.zero_le _) (by omega) ((e i hi).mpr ⟨h1, j, ⟨hj, h3⟩, h2⟩)
  · intro h i _ hi q
    have hi : i < n := by omega
    obtain ⟨h1, j, ⟨hj, h3⟩, h2⟩ := (e i hi).mp q
    exact h i j hi hj h1 h2 h3
theorem le3 {a b c a' b' c' : Nat} (h : a ≤ b + c) (h' : a' ≤ b' + c') : a + a' ≤ (b + b') + (c + c') := by omega
theorem pop_le {x y w : Nat} (h : ∀ i, i < 16 → x.testBit i = true → y.testBit i = true ∨ w.testBit i = true) : popN x ≤ popN y + popN w := by
  have g : ∀ i, i < 16 → x / 2 ^ i % 2 ≤ y / 2 ^ i % 2 + w / 2 ^ i % 2 := by
    intro i hi
    have q := h i hi
    rw [Nat.testBit_eq_decide_div_mod_eq, Nat.testBit_eq_decide_div_mod_eq, Nat.testBit_eq_decide_div_mod_eq, decide_eq_true_iff, decide_eq_true_iff, decide_eq_true_iff] at q
    omega
  have g0 := g 0 (by omega)
  rw [Nat.pow_zero, Nat.div_one, Nat.div_one, Nat.div_one] at g0
  have g1 : x / 2 % 2 ≤ y / 2 % 2 + w / 2 % 2 := g 1 (by omega)
  have g2 : x / 4 % 2 ≤ y / 4 % 2 + w / 4 % 2 := g 2 (by omega)
  have g3 : x / 8 % 2 ≤ y / 8 % 2 + w / 8 % 2 := g 3 (by omega)
  have g4 : x / 16 % 2 ≤ y / 16 % 2 + w / 16 % 2 := g 4 (by omega)
  have g5 : x / 32 % 2 ≤ y / 32 % 2 + w / 32 % 2 := g 5 (by omega)
  have g6 : x / 64 % 2 ≤ y / 64 % 2 + w / 64 % 2 := g 6 (by omega)
  have g7 : x / 128 % 2 ≤ y / 128 % 2 + w / 128 % 2 := g 7 (by omega)
  have g8 : x / 256 % 2 ≤ y / 256 % 2 + w / 256 % 2 := g 8 (by omega)
  have g9 : x / 512 % 2 ≤ y / 512 % 2 + w / 512 % 2 := g 9 (by omega)
  have g10 : x / 1024 % 2 ≤ y / 1024 % 2 + w / 1024 % 2 := g 10 (by omega)
  have g11 : x / 2048 % 2 ≤ y / 2048 % 2 + w / 2048 % 2 := g 11 (by omega)
  have g12 : x / 4096 % 2 ≤ y / 4096 % 2 + w / 4096 % 2 := g 12 (by omega)
  have g13 : x / 8192 % 2 ≤ y / 8192 % 2 + w / 8192 % 2 := g 13 (by omega)
  have g14 : x / 16384 % 2 ≤ y / 16384 % 2 + w / 16384 % 2 := g 14 (by omega)
  have g15 : x / 32768 % 2 ≤ y / 32768 % 2 + w / 32768 % 2 := g 15 (by omega)
  exact le3 (le3 (le3 (le3 (le3 (le3 (le3 (le3 (le3 (le3 (le3 (le3 (le3 (le3 (le3 g0 g1) g2) g3) g4) g5) g6) g7) g8) g9) g10) g11) g12) g13) g14) g15

