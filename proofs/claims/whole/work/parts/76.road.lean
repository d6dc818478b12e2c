/-! a road: its two ends come behind those that are there -/
def insL (L : Nat → Int) (at_ cn : Nat) (e : Int) : Nat → Int := fun j => if j = at_ then e else if at_ + 1 ≤ j ∧ j < at_ + 1 + cn then L (at_ + (j - (at_ + 1))) else L j
def incF (F : Nat → Int) (a n : Nat) : Nat → Int := fun q => if a < q ∧ q ≤ n then F q + 1 else F q
section R1
variable {d : Nat} {I : Nat → Nat → Int} {sp rt : Nat} {tt : Nat → Nat} {z : Zs}
theorem cp2_ins {k : Nat} {cn : Nat} {e : Int} {x : Nat} {v : Int} : up2 (up2 (cp2 I 28 k 28 (k + 1) cn) 28 k e) 27 x v = pc (up2 I 27 x v) 28 (insL (I 28) k cn e) := by
  funext a j
  unfold up2 cp2 pc insL
  by_cases h : a = 28
  · subst h
    simp
  · simp [h]
/-- an end more, at place a -/
theorem S_104 {n a : Nat} {e : Int} {fa fn : Nat} (hn : n ≤ 80) (ha : a < n) (hN : I 25 0 = n) (hfa : I 29 (a + 1) = fa) (hfn : I 29 n = fn) (hle : fa ≤ fn) (h300 : fn < 300) (he : 0 ≤ e ∧ e < 300) (hF : ∀ q, q ≤ n → 0 ≤ I 29 q ∧ I 29 q ≤ 300) : Call PG (d + 1) 104 [(2, 25), (0, e), (0, (a : Int))] (I, RF sp rt tt z.1, z) = some (none, (pc (pc (up2 I 27 e.toNat a) 28 (insL (I 28) fa (fn - fa) e)) 29 (incF (I 29) a n), RF sp rt tt z.1, z)) := by
  refine (K_104 ..).trans ?_
  refine (T_104_0 ..).trans ?_
  have ea : ∀ _ : Unit, w32 ((a : Int) + 1) = ((a + 1 : Nat) : Int) := fun _ => ws_n (by omega)
  rw [ea (), hN, Int.toNat_natCast, Int.toNat_natCast, hfa, hfn, ws_n (x := fa) (by omega), w32_of (x := (fn : Int) - fa) (by omega) (by omega)]
  refine ci_t (by omega) ?_
  refine ci_t (by omega) ?_
  have l28 : (LAY 28).1 = 20 := rfl
  have l28b : (LAY 28).2 = 300 := rfl
  refine ite_t ⟨Or.inl l28, rfl, by omega, by omega, by omega, by rw [l28b]; omega, by rw [l28b]; omega, by omega⟩ ?_
  refine (T_104_35 ..).trans ?_
  refine ci_t (by omega) ?_
  refine ci_t he ?_
  rw [Int.toNat_natCast, Int.toNat_natCast, show ((fn : Int) - fa).toNat = fn - fa by omega, cp2_ins, ea ()]
  have key : ∀ k q : Nat, q + k = n + 1 → a + 1 ≤ q → Run PG (Call PG d) 104 54 [(2, 25), (0, e), (0, (a : Int)), (0, (fa : Int)), (0, (q : Int))] [] (pc (pc (up2 I 27 e.toNat a) 28 (insL (I 28) fa (fn - fa) e)) 29 (incF (I 29) a (q - 1)), RF sp rt tt z.1, z) (0, 0) = some (none, (pc (pc (up2 I 27 e.toNat a) 28 (insL (I 28) fa (fn - fa) e)) 29 (incF (I 29) a n), RF sp rt tt z.1, z)) := by
    intro k
    induction k with
    | zero =>
      intro q h1 h2
      have : q - 1 = n := by omega
      rw [this]
      refine (T_104_54 ..).trans ?_
      exact ci_f (show ¬ (q : Int) ≤ I 25 0 by omega) rfl
    | succ k ih =>
      intro q h1 h2
      have hq : 0 ≤ (q : Int) ∧ (q : Int) < 81 := by omega
      have hfq := hF q (by omega)
      refine (T_104_54 ..).trans ?_
      refine ci_t (show (q : Int) ≤ I 25 0 by omega) ?_
      refine ci_t hq ?_
      refine ci_t hq ?_
      rw [Int.toNat_natCast, ws_n (x := q) (by omega), up2_pc]
      have e1 : pc (pc (up2 I 27 e.toNat a) 28 (insL (I 28) fa (fn - fa) e)) 29 (incF (I 29) a (q - 1)) 29 q = I 29 q := by
        rw [pc_at]
        exact if_neg (by omega)
      rw [e1, w32_of (x := I 29 q + 1) (by omega) (by omega)]
      have e2 : ud (incF (I 29) a (q - 1)) q (I 29 q + 1) = incF (I 29) a (q + 1 - 1) := by
        funext j
        by_cases c : j = q
        · subst c
          rw [ud_eq]
          exact (if_pos (by omega)).symm
        · rw [ud_ne c]
          unfold incF
          by_cases c2 : a < j ∧ j ≤ q - 1
          · rw [if_pos c2, if_pos (by omega)]
          · rw [if_neg c2, if_neg (by omega)]
      rw [e2]
      exact ih (q + 1) (by omega) (by omega)
  have h := key (n - a) (a + 1) (by omega) (by omega)
  have e3 : incF (I 29) a (a + 1 - 1) = I 29 := by
    funext j
    exact if_neg (by omega)
  rw [e3] at h
  have e4 : pc (pc (up2 I 27 e.toNat a) 28 (insL (I 28) fa (fn - fa) e)) 29 (I 29) = pc (up2 I 27 e.toNat a) 28 (insL (I 28) fa (fn - fa) e) := pc_self (I := pc (up2 I 27 e.toNat a) 28 (insL (I 28) fa (fn - fa) e)) (c := 29)
  rw [e4] at h
  exact h
end R1
/-- the places' ends lie one behind the other: c many of place a, the i-th of them is it a i -/
def SEG (L F : Nat → Int) (n : Nat) (c : Nat → Nat) (it : Nat → Nat → Int) : Prop := F 0 = 0 ∧ ∀ a, a < n → F (a + 1) = F a + c a ∧ ∀ i, i < c a → L (F a + (i : Int)).toNat = it a i
theorem SEG_mono {L F : Nat → Int} {n : Nat} {c : Nat → Nat} {it : Nat → Nat → Int} (H : SEG L F n c it) : ∀ {b a : Nat}, a ≤ b → b ≤ n → 0 ≤ F a ∧ F a ≤ F b
  | 0, a, h, _ => by
    have : a = 0 := by omega
    subst this
    rw [H.1]; omega
  | b + 1, a, h, hb => by
    by_cases c : a = b + 1
    · subst c
      have h1 := SEG_mono H (b := b) (a := b) (Nat.le_refl b) (by omega)
      have h2 := (H.2 b (by omega)).1
      omega
    · have h1 := SEG_mono H (b := b) (a := a) (by omega) (by omega)
      have h2 := (H.2 b (by omega)).1
      omega
theorem SEG_ins {L F : Nat → Int} {n a fa fn : Nat} {c : Nat → Nat} {it : Nat → Nat → Int} {e : Int} (H : SEG L F n c it) (ha : a < n) (hfa : F (a + 1) = fa) (hfn : F n = fn) : SEG (insL L fa (fn - fa) e) (incF F a n) n (fun x => if x = a then c x + 1 else c x) (fun x i => if x = a ∧ i = c a then e else it x i) := by
  have hle := SEG_mono H (b := n) (a := a + 1) (by omega) (Nat.le_refl n)
  refine ⟨by show (if a < 0 ∧ 0 ≤ n then F 0 + 1 else F 0) = 0; rw [if_neg (by omega)]; exact H.1, fun x hx => ?_⟩
  obtain ⟨h1, h2⟩ := H.2 x hx
  have f0 : incF F a n x = if a < x then F x + 1 else F x := by
    unfold incF
    by_cases q : a < x
    · rw [if_pos ⟨q, by omega⟩, if_pos q]
    · rw [if_neg (fun w => q w.1), if_neg q]
  have f1 : incF F a n (x + 1) = if a ≤ x then F (x + 1) + 1 else F (x + 1) := by
    unfold incF
    by_cases q : a ≤ x
    · rw [if_pos ⟨by omega, by omega⟩, if_pos q]
    · rw [if_neg (fun w => q (by omega)), if_neg q]
  have m0 := SEG_mono H (b := x) (a := x) (Nat.le_refl x) (by omega)
  rw [f0, f1]
  dsimp only
  constructor
  · by_cases q : x = a
    · subst q
      rw [if_pos (Nat.le_refl x), if_neg (Nat.lt_irrefl x), if_pos rfl]
      omega
    · rw [if_neg q]
      by_cases q2 : a < x
      · rw [if_pos (by omega), if_pos q2]; omega
      · rw [if_neg (by omega), if_neg q2]; exact h1
  · intro i hi
    by_cases q : x = a
    · subst q
      rw [if_neg (Nat.lt_irrefl x)]
      have hi : i < (if x = x then c x + 1 else c x) := hi
      rw [if_pos rfl] at hi
      by_cases q3 : i = c x
      · rw [if_pos ⟨rfl, q3⟩]
        exact if_pos (by omega)
      · rw [if_neg (fun w => q3 w.2), ← h2 i (by omega)]
        unfold insL
        rw [if_neg (by omega), if_neg (by omega)]
    · have hi : i < (if x = a then c x + 1 else c x) := hi
      rw [if_neg q] at hi
      rw [if_neg (c := x = a ∧ i = c a) (fun w => q w.1), ← h2 i hi]
      by_cases q2 : a < x
      · have m1 := SEG_mono H (b := x) (a := a + 1) (by omega) (by omega)
        have m2 := SEG_mono H (b := n) (a := x + 1) (by omega) (Nat.le_refl n)
        rw [if_pos q2]
        unfold insL
        rw [if_neg (by omega), if_pos (by omega)]
        congr 1
        omega
      · have m1 := SEG_mono H (b := a + 1) (a := x + 1) (by omega) (by omega)
        rw [if_neg q2]
        unfold insL
        rw [if_neg (by omega), if_neg (by omega)]

