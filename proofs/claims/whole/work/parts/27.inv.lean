/-! what holds between the class's cells and the reference's, at every call -/
/-- a sum -/
def sm (f : Nat → Int) : Nat → Int
  | 0 => 0
  | n + 1 => sm f n + f n
/-- minute, tape -/
def GT (I : Nat → Nat → Int) : Prop :=
  (I 82 2 = I 0 0 ∧ 0 ≤ I 0 0 ∧ I 0 0 ≤ 5000000) ∧ (I 82 1 = I 0 2 ∧ 0 ≤ I 0 2 ∧ I 0 2 ≤ 160) ∧ (∀ j, I 83 j = I 1 j) ∧ (∀ j, -128 ≤ I 1 j ∧ I 1 j ≤ 127)
/-- pits -/
def GP (I : Nat → Nat → Int) : Prop :=
  (I 82 3 = I 2 6 ∧ 0 ≤ I 2 6 ∧ I 2 6 ≤ 12) ∧ (I 82 16 = I 2 7 ∧ 0 ≤ I 2 7 ∧ I 2 7 ≤ 200) ∧
  ((∀ j, I 84 j = I 3 j) ∧ (∀ j, I 85 j = I 4 j) ∧ (∀ j, I 86 j = I 5 j) ∧ (∀ j, I 87 j = I 6 j) ∧ (∀ j, I 88 j = I 7 j) ∧ (∀ j, I 89 j = I 8 j)) ∧
  (∀ j, 0 ≤ I 3 j ∧ I 3 j ≤ 7) ∧ (∀ j, 0 ≤ I 4 j ∧ I 4 j ≤ 2000) ∧ (∀ j, 0 ≤ I 5 j ∧ I 5 j ≤ 100) ∧ (∀ j, 0 ≤ I 6 j ∧ I 6 j ≤ 2000) ∧ (∀ j, 0 ≤ I 7 j ∧ I 7 j ≤ 2000) ∧ (∀ j, 0 ≤ I 8 j ∧ I 8 j ≤ I 2 7)
/-- hands, lamps, outings, shots -/
def GC (I : Nat → Nat → Int) : Prop :=
  ((I 82 4 = I 55 0 ∧ 0 ≤ I 55 0 ∧ I 55 0 ≤ 40) ∧ (I 82 12 = I 55 4 ∧ 0 ≤ I 55 4 ∧ I 55 4 ≤ 60) ∧ (I 82 13 = I 55 7 ∧ 0 ≤ I 55 7 ∧ I 55 7 ≤ 300) ∧ (I 82 14 = I 55 13 ∧ 0 ≤ I 55 13 ∧ I 55 13 ≤ 300)) ∧
  ((∀ j, I 91 j = I 56 j) ∧ (∀ j, I 92 j = I 57 j) ∧ (∀ j, I 93 j = I 58 j) ∧ (∀ j, I 145 j = I 59 j) ∧ (∀ j, I 146 j = I 60 j) ∧ (∀ j, I 147 j = I 61 j) ∧ (∀ j, I 148 j = I 62 j) ∧ (∀ j, I 149 j = I 63 j) ∧ (∀ j, I 151 j = I 67 j)) ∧
  (∀ j : Nat, j < (I 55 0).toNat → (0 ≤ I 56 j ∧ I 56 j < I 2 6) ∧ (-1 ≤ I 58 j ∧ I 58 j < I 55 7) ∧ 0 ≤ I 57 j ∧ I 57 j ≤ 4) ∧
  (∀ j : Nat, j < (I 55 7).toNat → (0 ≤ I 61 j ∧ I 61 j < I 55 0) ∧ -1 ≤ I 62 j ∧ I 62 j < I 55 4) ∧
  (∀ j : Nat, j < (I 55 13).toNat → (0 ≤ I 150 j ∧ I 150 j < I 55 0) ∧ I 66 j = I 56 (I 150 j).toNat ∧ 0 ≤ I 67 j ∧ I 67 j ≤ 5000000) ∧
  (∀ p : Nat, p < 12 → I 64 p = sm (fun h => bz (I 56 h = p ∧ ¬ I 58 h = -1)) (I 55 0).toNat) ∧
  (∀ p : Nat, p < 12 → I 65 p = sm (fun h => bz (I 56 h = p ∧ ¬ I 58 h = -1 ∧ ¬ I 62 (I 58 h).toNat = -1)) (I 55 0).toNat) ∧
  (∀ j, I 60 j = 0 ∨ I 60 j = 1) ∧ (∀ j, I 59 j = 0 ∨ 0 ≤ I 59 j)
/-- warnings -/
def GW (I : Nat → Nat → Int) : Prop :=
  (I 82 15 = I 68 0 ∧ 0 ≤ I 68 0 ∧ I 68 0 ≤ 60) ∧ (∀ j, I 152 j = I 69 j) ∧
  (∀ w : Nat, w < (I 68 0).toNat → 0 ≤ I 69 w ∧ I 69 w < I 2 6) ∧
  (∀ w h : Nat, w < (I 68 0).toNat → h < 40 → I 153 (40 * w + h) = I 70 (40 * w + h)) ∧
  (∀ j : Nat, 40 * (I 68 0).toNat ≤ j → j < 2400 → I 70 j = -1) ∧
  (∀ w h : Nat, w < (I 68 0).toNat → h < 40 → (-1 ≤ I 70 (40 * w + h) ∧ I 70 (40 * w + h) ≤ I 0 0) ∧ (¬ I 70 (40 * w + h) = -1 → h < (I 55 0).toNat)) ∧
  (∀ w h : Nat, w < 60 → h < 40 → ((ia64 (shr64 (I 71 w) h) 1 = 0 ↔ I 154 (40 * w + h) = 0) ∧ (I 154 (40 * w + h) = 0 ∨ I 154 (40 * w + h) = 1)))
/-- looks -/
def GL (I : Nat → Nat → Int) : Prop :=
  (I 82 17 = I 72 0 ∧ 0 ≤ I 72 0 ∧ I 72 0 ≤ 12) ∧ (I 82 19 = I 72 2 ∧ 1 ≤ I 72 2 ∧ I 72 2 ≤ 16) ∧
  (∀ j : Nat, j < (I 72 0).toNat → I 155 j = I 74 j ∧ I 156 j = I 75 j) ∧
  (∀ p : Nat, p < (I 2 6).toNat → I 90 p = I 76 p) ∧ (∀ p : Nat, (I 2 6).toNat ≤ p → p < 12 → I 76 p = -1)
/-- what was seen -/
def GI (I : Nat → Nat → Int) : Prop :=
  (I 82 18 = I 77 0 ∧ 0 ≤ I 77 0 ∧ I 77 0 ≤ 16) ∧ (I 82 20 = I 77 5 ∧ 1 ≤ I 77 5 ∧ I 77 5 ≤ 60) ∧
  ((∀ j, I 159 j = I 78 j) ∧ (∀ j, I 160 j = I 79 j) ∧ (∀ j, I 161 j = I 80 j)) ∧
  (∀ j : Nat, j < (I 77 0).toNat → (0 ≤ I 79 j ∧ I 79 j < I 25 0) ∧ 0 ≤ I 80 j ∧ I 80 j ≤ 5000000)
/-- plans and points -/
def GS (I : Nat → Nat → Int) : Prop :=
  ((I 82 8 = I 45 0 ∧ 0 ≤ I 45 0 ∧ I 45 0 ≤ 15) ∧ (I 82 9 = I 45 1 ∧ 0 ≤ I 45 1 ∧ I 45 1 ≤ 30) ∧ (I 82 10 = I 45 2 ∧ 0 ≤ I 45 2 ∧ I 45 2 ≤ 30) ∧ (I 82 11 = I 45 3 ∧ 0 ≤ I 45 3 ∧ I 45 3 ≤ 30)) ∧
  ((∀ j, I 130 j = I 46 j) ∧ (∀ j, I 131 j = I 47 j) ∧ (∀ j, I 132 j = I 48 j) ∧ (∀ j, I 133 j = I 49 j) ∧ (∀ j, I 137 j = I 53 j) ∧ (∀ j, I 144 j = I 54 j)) ∧
  (∀ j : Nat, (0 ≤ I 46 j ∧ I 46 j ≤ 1000) ∧ (0 ≤ I 47 j ∧ I 47 j ≤ 3) ∧ (-100000 ≤ I 48 j ∧ I 48 j ≤ 100000) ∧ (-100000 ≤ I 49 j ∧ I 49 j ≤ 100000) ∧ (-100000 ≤ I 51 j ∧ I 51 j ≤ 100000) ∧ (-100000 ≤ I 52 j ∧ I 52 j ≤ 100000) ∧ 0 ≤ I 54 j ∧ I 54 j ≤ 1000) ∧
  (∀ j : Nat, j < (I 45 1).toNat → (I 134 j = I 50 j ∧ I 135 j = I 51 j ∧ I 136 j = I 52 j) ∧ 0 ≤ I 50 j ∧ I 50 j < I 45 0) ∧
  (∀ j : Nat, j < (I 45 2).toNat → (I 138 j = I 50 (30 + j) ∧ I 139 j = I 51 (30 + j) ∧ I 140 j = I 52 (30 + j)) ∧ (0 ≤ I 50 (30 + j) ∧ I 50 (30 + j) < I 45 0) ∧ 0 ≤ I 53 j ∧ I 53 j < I 2 6) ∧
  (∀ j : Nat, j < 2 * (I 45 3).toNat → (I 141 j = I 50 (60 + j) ∧ I 142 j = I 51 (60 + j) ∧ I 143 j = I 52 (60 + j)) ∧ 0 ≤ I 50 (60 + j) ∧ I 50 (60 + j) < I 45 0)
def InvS (I : Nat → Nat → Int) : Prop := GT I ∧ GP I ∧ GC I ∧ GW I ∧ GL I ∧ GI I ∧ GS I
/-- the places that nets, air and laws rest on -/
def RS (a j : Nat) : Bool := if a = 82 then (j == 3 || j == 5 || j == 6 || j == 7 || j == 51) else if a = 2 then j == 6 else if a < 163 then ((9 ≤ a && a ≤ 44) || (94 ≤ a && a ≤ 129)) else true
def rs (I : Nat → Nat → Int) : Nat → Nat → Int := fun a j => if RS a j = true then I a j else 0
theorem rs_up {I : Nat → Nat → Int} {c i : Nat} {x : Int} (h : RS c i = false) : rs (up2 I c i x) = rs I := by
  funext a j
  unfold rs
  by_cases e : RS a j = true
  · rw [if_pos e, if_pos e]
    unfold up2
    rw [if_neg (fun q => by rw [q.1, q.2, h] at e; cases e)]
  · rw [if_neg e, if_neg e]
def OpR (mc mm : Nat) (as : List AV) (I : Nat → Nat → Int) (sp rt : Nat) (tt : Nat → Nat) (z : Zs) : Prop :=
  ∃ (v : Int) (I1 I2 : Nat → Nat → Int), Call PG 300 mc ((2, 0) :: as) (I, RF sp rt tt z.1, z) = some (some (0, v), (I1, RF sp rt tt z.1, z)) ∧ Call PG 300 mm ((2, 82) :: as) (I1, RF sp rt tt z.1, z) = some (some (0, v), (I2, RF sp rt tt z.1, z)) ∧ InvS I2 ∧ rs I2 = rs I
theorem op_if {c : Prop} [Decidable c] {x : Option Res} {v v' : Int} {h h' : Hp} (e : x = if c then some (some (0, v), h) else some (some (0, v'), h')) : x = some (some (0, if c then v else v'), if c then h else h') := by rw [e]; split <;> rfl
theorem up2_def (f : Nat → Nat → Int) (a j : Nat) (x : Int) (b k : Nat) : up2 f a j x b k = if b = a ∧ k = j then x else f b k := rfl
theorem eqv {a b : Int} {h : Hp} (e : a = b) : (some (some (0, a), h) : Option Res) = some (some (0, b), h) := by rw [e]
/-- F i for i = 0 .. n-1, from s on -/
def itr {α : Type} (F : Nat → α → α) : Nat → α → α
  | 0, s => s
  | n + 1, s => F n (itr F n s)
theorem loop_p {α : Type} (F : Nat → α → α) (G : Nat → α → Prop) (n : Nat) (s0 : α) (step : ∀ i s, i < n → s = itr F i s0 → G (i + 1) (F i s) → G i s) (fin : G n (itr F n s0)) : G 0 s0 := by
  have h : ∀ j, j ≤ n → G j (itr F j s0) → G 0 s0 := by
    intro j
    induction j with
    | zero => intro _ h; exact h
    | succ j ih => intro hj h; exact ih (by omega) (step j _ (by omega) rfl h)
  exact h n (Nat.le_refl n) fin
theorem itr_congr {α : Type} {F F' : Nat → α → α} : ∀ {n : Nat} {s : α}, (∀ i a, i < n → F i a = F' i a) → itr F n s = itr F' n s
  | 0, _, _ => rfl
  | n + 1, s, h => by
    unfold itr
    rw [itr_congr (fun i a hi => h i a (Nat.lt_succ_of_lt hi)), h n _ (Nat.lt_succ_self n)]

