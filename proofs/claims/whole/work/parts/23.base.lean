/-! what is needed at every walk -/
theorem ite_t {c : Prop} [Decidable c] {a b r : Option Res} (h : c) (e : a = r) : (if c then a else b) = r := by rw [if_pos h]; exact e
theorem ite_f {c : Prop} [Decidable c] {a b r : Option Res} (h : ¬ c) (e : b = r) : (if c then a else b) = r := by rw [if_neg h]; exact e
theorem ite_c {c : Prop} [Decidable c] {a b r : Option Res} (h1 : c → a = r) (h2 : ¬ c → b = r) : (if c then a else b) = r := by
  by_cases h : c
  · rw [if_pos h]; exact h1 h
  · rw [if_neg h]; exact h2 h
theorem bd_t {x : Option Res} {v : Option AV} {h : Hp} {f : Option AV → Hp → Option Res} {r : Option Res} (e : x = some (v, h)) (g : f v h = r) : bd x f = r := by rw [bd_some e]; exact g
theorem nn_t {r0 : Int} {n : Nat} {t0 : Option Res} {f : Nat → Option Res} {r : Option Res} (e : r0.toNat = n + 1) (g : f n = r) : nn r0 t0 f = r := by rw [nn_some e]; exact g
theorem w32_of {x : Int} (h1 : -2147483648 ≤ x) (h2 : x < 2147483648) : w32 x = x := by unfold w32; rw [Int.bmod_def]; split <;> omega
theorem w64_of {x : Int} (h1 : -9223372036854775808 ≤ x) (h2 : x < 9223372036854775808) : w64 x = x := by unfold w64; rw [Int.bmod_def]; split <;> omega
def bz (p : Prop) [Decidable p] : Int := if p then 1 else 0
theorem bz_t {p : Prop} [Decidable p] (h : p) : bz p = 1 := if_pos h
theorem bz_f {p : Prop} [Decidable p] (h : ¬ p) : bz p = 0 := if_neg h
theorem bz_01 (p : Prop) [Decidable p] : bz p = 0 ∨ bz p = 1 := by unfold bz; split <;> simp
theorem ite_bt {p : Prop} [Decidable p] {a b r : Option Res} (h : ¬ p) (e : a = r) : (if bz p = 0 then a else b) = r := ite_t (bz_f h) e
theorem ite_bf {p : Prop} [Decidable p] {a b r : Option Res} (h : p) (e : b = r) : (if bz p = 0 then a else b) = r := ite_f (by rw [bz_t h]; decide) e
theorem ite_b {p : Prop} [Decidable p] {a b r : Option Res} (h1 : ¬ p → a = r) (h2 : p → b = r) : (if bz p = 0 then a else b) = r := by
  by_cases h : p
  · exact ite_bf h (h2 h)
  · exact ite_bt h (h1 h)
theorem ite_b01 {p : Prop} [Decidable p] {a b r : Option Res} (e : a = r) : (if bz p = 0 ∨ bz p = 1 then a else b) = r := ite_t (bz_01 p) e
theorem lcm_lt (x y : Int) : (lcm x y < 0) ↔ x < y := by unfold lcm; split <;> (try split) <;> omega
theorem lcm_le (x y : Int) : (lcm x y ≤ 0) ↔ x ≤ y := by unfold lcm; split <;> (try split) <;> omega
theorem lcm_eq (x y : Int) : (lcm x y = 0) ↔ x = y := by unfold lcm; split <;> (try split) <;> omega
theorem up2_ne {f : Nat → Nat → Int} {a j b k : Nat} {x : Int} (h : b ≠ a) : up2 f a j x b k = f b k := by unfold up2; rw [if_neg (fun q => h q.1)]
theorem up2_nj {f : Nat → Nat → Int} {a j b k : Nat} {x : Int} (h : k ≠ j) : up2 f a j x b k = f b k := by unfold up2; rw [if_neg (fun q => h q.2)]
theorem up2_eq {f : Nat → Nat → Int} {a j : Nat} {x : Int} : up2 f a j x a j = x := by unfold up2; rw [if_pos ⟨rfl, rfl⟩]
theorem up2_at {f : Nat → Nat → Int} {a j k : Nat} {x : Int} : up2 f a j x a k = if k = j then x else f a k := by
  unfold up2
  by_cases h : k = j
  · rw [if_pos h, if_pos ⟨rfl, h⟩]
  · rw [if_neg h, if_neg (fun q => h q.2)]
theorem spec_if {c : Prop} [Decidable c] {x a b : Option Res} (h1 : c → x = a) (h2 : ¬ c → x = b) : x = if c then a else b := by
  by_cases h : c
  · rw [if_pos h]; exact h1 h
  · rw [if_neg h]; exact h2 h
theorem spec_t {c : Prop} [Decidable c] {x a b : Option Res} (h : c) (e : x = a) : x = if c then a else b := by rw [if_pos h]; exact e
theorem spec_f {c : Prop} [Decidable c] {x a b : Option Res} (h : ¬ c) (e : x = b) : x = if c then a else b := by rw [if_neg h]; exact e
theorem ci_t {c : Prop} {a b r : Option Res} (h : c) (e : a = r) : ci c a b = r := by unfold ci; rw [if_pos h]; exact e
theorem ci_f {c : Prop} {a b r : Option Res} (h : ¬ c) (e : b = r) : ci c a b = r := by unfold ci; rw [if_neg h]; exact e
theorem ci_c {c : Prop} {a b r : Option Res} (h1 : c → a = r) (h2 : ¬ c → b = r) : ci c a b = r := by
  by_cases h : c
  · exact ci_t h (h1 h)
  · exact ci_f h (h2 h)
theorem ci_bt {p : Prop} [Decidable p] {a b r : Option Res} (h : ¬ p) (e : a = r) : ci (bz p = 0) a b = r := ci_t (bz_f h) e
theorem ci_bf {p : Prop} [Decidable p] {a b r : Option Res} (h : p) (e : b = r) : ci (bz p = 0) a b = r := ci_f (by rw [bz_t h]; decide) e
theorem ci_b {p : Prop} [Decidable p] {a b r : Option Res} (h1 : ¬ p → a = r) (h2 : p → b = r) : ci (bz p = 0) a b = r := by
  by_cases h : p
  · exact ci_bf h (h2 h)
  · exact ci_bt h (h1 h)
