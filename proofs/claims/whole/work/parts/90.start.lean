/-! the law once both are built -/
def LC0 : List (Nat × Nat × Nat) := [(0, 11, 78), (77, 4, 82), (77, 3, 81), (77, 2, 80), (77, 1, 79), (0, 10, 73), (72, 5, 77), (72, 4, 76), (72, 3, 75), (72, 1, 74), (0, 9, 69), (68, 3, 72), (68, 2, 71), (68, 1, 70), (0, 8, 56), (55, 15, 68), (55, 14, 67), (55, 12, 66), (55, 11, 65), (55, 10, 64), (55, 9, 63), (55, 8, 62), (55, 6, 61), (55, 5, 60), (55, 3, 59), (55, 2, 58), (55, 1, 57), (0, 7, 46), (45, 12, 55), (45, 11, 54), (45, 10, 53), (45, 9, 52), (45, 8, 51), (45, 7, 50), (45, 6, 49), (45, 5, 48), (45, 4, 47), (0, 6, 39), (38, 5, 45), (38, 4, 44), (38, 3, 43), (38, 2, 42), (38, 1, 41), (38, 0, 40), (0, 5, 26), (25, 14, 38), (25, 13, 37), (25, 12, 36), (25, 11, 35), (25, 10, 34), (25, 9, 33), (25, 7, 32), (25, 6, 31), (25, 5, 30), (25, 4, 29), (25, 3, 28), (25, 2, 27), (0, 4, 10), (9, 7, 25), (9, 6, 24), (9, 4, 23), (9, 3, 13), (12, 14, 22), (12, 12, 21), (12, 11, 20), (12, 10, 19), (12, 9, 18), (12, 8, 17), (12, 7, 16), (12, 6, 15), (12, 4, 14), (9, 2, 12), (9, 0, 11), (0, 3, 3), (2, 5, 9), (2, 4, 8), (2, 3, 7), (2, 2, 6), (2, 1, 5), (2, 0, 4), (0, 1, 2)]
def LC1 : List (Nat × Nat × Nat) := [(82, 110, 163), (82, 109, 162), (82, 108, 161), (82, 107, 160), (82, 106, 159), (82, 105, 158), (82, 104, 157), (82, 103, 156), (82, 102, 155), (82, 101, 154), (82, 100, 153), (82, 99, 152), (82, 98, 151), (82, 97, 150), (82, 96, 149), (82, 95, 148), (82, 94, 147), (82, 93, 146), (82, 92, 145), (82, 91, 144), (82, 90, 143), (82, 89, 142), (82, 88, 141), (82, 87, 140), (82, 86, 139), (82, 85, 138), (82, 84, 137), (82, 83, 136), (82, 82, 135), (82, 81, 134), (82, 80, 133), (82, 79, 132), (82, 78, 131), (82, 77, 130), (82, 76, 129), (82, 75, 128), (82, 74, 127), (82, 73, 126), (82, 72, 125), (82, 71, 124), (82, 70, 123), (82, 69, 122), (82, 68, 121), (82, 67, 120), (82, 66, 119), (82, 65, 118), (82, 64, 117), (82, 63, 116), (82, 62, 115), (82, 60, 114), (82, 59, 113), (82, 58, 112), (82, 57, 111), (82, 55, 110), (82, 54, 109), (82, 44, 108), (82, 43, 107), (82, 42, 106), (82, 41, 105), (82, 40, 104), (82, 39, 103), (82, 38, 102), (82, 37, 101), (82, 36, 100), (82, 35, 99), (82, 34, 98), (82, 33, 97), (82, 32, 96), (82, 31, 95), (82, 30, 94), (82, 29, 93), (82, 28, 92), (82, 27, 91), (82, 26, 90), (82, 25, 89), (82, 24, 88), (82, 23, 87), (82, 22, 86), (82, 21, 85), (82, 0, 84)]
def IC0 : Nat → Nat → Int := (up2 (pc (up2 (pc (pc (pc (pc (pc (fun _ _ => 0) 34 (fl ((fun _ _ => 0) 34) 12 (-1))) 37 (fl ((pc (fun _ _ => 0) 34 (fl ((fun _ _ => 0) 34) 12 (-1))) 37) 12 (-2))) 39 (fl ((pc (pc (fun _ _ => 0) 34 (fl ((fun _ _ => 0) 34) 12 (-1))) 37 (fl ((pc (fun _ _ => 0) 34 (fl ((fun _ _ => 0) 34) 12 (-1))) 37) 12 (-2))) 39) 12 (-1))) 44 (fl ((pc (pc (pc (fun _ _ => 0) 34 (fl ((fun _ _ => 0) 34) 12 (-1))) 37 (fl ((pc (fun _ _ => 0) 34 (fl ((fun _ _ => 0) 34) 12 (-1))) 37) 12 (-2))) 39 (fl ((pc (pc (fun _ _ => 0) 34 (fl ((fun _ _ => 0) 34) 12 (-1))) 37 (fl ((pc (fun _ _ => 0) 34 (fl ((fun _ _ => 0) 34) 12 (-1))) 37) 12 (-2))) 39) 12 (-1))) 44) 12 (-2))) 70 (fl ((pc (pc (pc (pc (fun _ _ => 0) 34 (fl ((fun _ _ => 0) 34) 12 (-1))) 37 (fl ((pc (fun _ _ => 0) 34 (fl ((fun _ _ => 0) 34) 12 (-1))) 37) 12 (-2))) 39 (fl ((pc (pc (fun _ _ => 0) 34 (fl ((fun _ _ => 0) 34) 12 (-1))) 37 (fl ((pc (fun _ _ => 0) 34 (fl ((fun _ _ => 0) 34) 12 (-1))) 37) 12 (-2))) 39) 12 (-1))) 44 (fl ((pc (pc (pc (fun _ _ => 0) 34 (fl ((fun _ _ => 0) 34) 12 (-1))) 37 (fl ((pc (fun _ _ => 0) 34 (fl ((fun _ _ => 0) 34) 12 (-1))) 37) 12 (-2))) 39 (fl ((pc (pc (fun _ _ => 0) 34 (fl ((fun _ _ => 0) 34) 12 (-1))) 37 (fl ((pc (fun _ _ => 0) 34 (fl ((fun _ _ => 0) 34) 12 (-1))) 37) 12 (-2))) 39) 12 (-1))) 44) 12 (-2))) 70) 2400 (-1))) 72 2 (1)) 76 (fl ((up2 (pc (pc (pc (pc (pc (fun _ _ => 0) 34 (fl ((fun _ _ => 0) 34) 12 (-1))) 37 (fl ((pc (fun _ _ => 0) 34 (fl ((fun _ _ => 0) 34) 12 (-1))) 37) 12 (-2))) 39 (fl ((pc (pc (fun _ _ => 0) 34 (fl ((fun _ _ => 0) 34) 12 (-1))) 37 (fl ((pc (fun _ _ => 0) 34 (fl ((fun _ _ => 0) 34) 12 (-1))) 37) 12 (-2))) 39) 12 (-1))) 44 (fl ((pc (pc (pc (fun _ _ => 0) 34 (fl ((fun _ _ => 0) 34) 12 (-1))) 37 (fl ((pc (fun _ _ => 0) 34 (fl ((fun _ _ => 0) 34) 12 (-1))) 37) 12 (-2))) 39 (fl ((pc (pc (fun _ _ => 0) 34 (fl ((fun _ _ => 0) 34) 12 (-1))) 37 (fl ((pc (fun _ _ => 0) 34 (fl ((fun _ _ => 0) 34) 12 (-1))) 37) 12 (-2))) 39) 12 (-1))) 44) 12 (-2))) 70 (fl ((pc (pc (pc (pc (fun _ _ => 0) 34 (fl ((fun _ _ => 0) 34) 12 (-1))) 37 (fl ((pc (fun _ _ => 0) 34 (fl ((fun _ _ => 0) 34) 12 (-1))) 37) 12 (-2))) 39 (fl ((pc (pc (fun _ _ => 0) 34 (fl ((fun _ _ => 0) 34) 12 (-1))) 37 (fl ((pc (fun _ _ => 0) 34 (fl ((fun _ _ => 0) 34) 12 (-1))) 37) 12 (-2))) 39) 12 (-1))) 44 (fl ((pc (pc (pc (fun _ _ => 0) 34 (fl ((fun _ _ => 0) 34) 12 (-1))) 37 (fl ((pc (fun _ _ => 0) 34 (fl ((fun _ _ => 0) 34) 12 (-1))) 37) 12 (-2))) 39 (fl ((pc (pc (fun _ _ => 0) 34 (fl ((fun _ _ => 0) 34) 12 (-1))) 37 (fl ((pc (fun _ _ => 0) 34 (fl ((fun _ _ => 0) 34) 12 (-1))) 37) 12 (-2))) 39) 12 (-1))) 44) 12 (-2))) 70) 2400 (-1))) 72 2 (1)) 76) 12 (-1))) 77 5 (5))
def IC1 : Nat → Nat → Int := (up2 (up2 IC0 82 19 (1)) 82 20 (5))
def lk3 : List (Nat × Nat × Nat) → Nat → Nat → Nat
  | [], _, _ => 0
  | t :: l, a, j => cond (Nat.beq a t.1 && Nat.beq j t.2.1) t.2.2 (lk3 l a j)
theorem up3_lk {a j : Nat} : ∀ {l : List (Nat × Nat × Nat)}, up3 l (fun _ _ => 0) a j = ((lk3 l a j : Nat) : Int)
  | [] => rfl
  | t :: l => by
    have ih := up3_lk (a := a) (j := j) (l := l)
    show (if a = t.1 ∧ j = t.2.1 then ((t.2.2 : Nat) : Int) else up3 l (fun _ _ => 0) a j) = ((cond (Nat.beq a t.1 && Nat.beq j t.2.1) t.2.2 (lk3 l a j) : Nat) : Int)
    rw [ih]
    by_cases c : a = t.1 ∧ j = t.2.1
    · rw [if_pos c, c.1, c.2, Nat.beq_refl, Nat.beq_refl]; rfl
    · rw [if_neg c]
      have : (Nat.beq a t.1 && Nat.beq j t.2.1) = false := by
        rw [← Bool.not_eq_true, Bool.and_eq_true]
        exact fun q => c ⟨Nat.eq_of_beq_eq_true q.1, Nat.eq_of_beq_eq_true q.2⟩
      rw [this]; rfl
def rfn (a j : Nat) : Nat := if a = 9 ∧ j = 3 then 13 else if a = 22 ∧ j = 0 then 0 else if a = 11 then 0 else (RT0.getD a []).getD j 0
def chk (a : Nat) : Nat → Bool
  | 0 => true
  | j + 1 => Nat.beq (lk3 (LC1 ++ LC0) a j) (rfn a j) && chk a j
def ch1 (a : Nat) : Bool := Nat.ble 23 a && (LC1 ++ LC0).all (fun t => !Nat.beq a t.1) && (RT0.getD a []).isEmpty
def chka : Nat → Bool
  | 0 => true
  | a + 1 => (ch1 a || chk a 120) && chka a
theorem chka_t : chka 163 = true := by decide +kernel
theorem chk_at {a : Nat} : ∀ {n j : Nat}, chk a n = true → j < n → lk3 (LC1 ++ LC0) a j = rfn a j
  | 0, _, _, h => absurd h (by omega)
  | n + 1, j, h, hj => by
    unfold chk at h
    rw [Bool.and_eq_true] at h
    by_cases c : j = n
    · rw [c]; exact Nat.eq_of_beq_eq_true h.1
    · exact chk_at h.2 (by omega)
theorem chka_at : ∀ {n a : Nat}, chka n = true → a < n → (ch1 a || chk a 120) = true
  | 0, _, _, h => absurd h (by omega)
  | n + 1, a, h, ha => by
    unfold chka at h
    rw [Bool.and_eq_true] at h
    by_cases c : a = n
    · rw [c]; exact h.1
    · exact chka_at h.2 (by omega)
theorem lk3_n {a j : Nat} : ∀ {l : List (Nat × Nat × Nat)}, l.all (fun t => !Nat.beq a t.1) = true → lk3 l a j = 0
  | [], _ => rfl
  | t :: l, q => by
    rw [List.all_cons, Bool.and_eq_true] at q
    have ih := lk3_n (l := l) (j := j) q.2
    show cond (Nat.beq a t.1 && Nat.beq j t.2.1) t.2.2 (lk3 l a j) = 0
    have e : Nat.beq a t.1 = false := by
      have := q.1
      revert this
      cases Nat.beq a t.1 <;> decide
    rw [e]; exact ih
theorem ch1_at {a j : Nat} (h : ch1 a = true) : lk3 (LC1 ++ LC0) a j = rfn a j := by
  unfold ch1 at h
  rw [Bool.and_eq_true, Bool.and_eq_true] at h
  have h1 : 23 ≤ a := Nat.le_of_ble_eq_true h.1.1
  have h2 := List.isEmpty_iff.mp h.2
  rw [lk3_n h.1.2]
  unfold rfn
  rw [if_neg (by omega), if_neg (by omega), if_neg (by omega), h2]; rfl
theorem lk3_0 {a j : Nat} (h : 163 ≤ a ∨ 120 ≤ j) : ∀ {l : List (Nat × Nat × Nat)}, l.all (fun t => Nat.blt t.1 163 && Nat.blt t.2.1 120) = true → lk3 l a j = 0
  | [], _ => rfl
  | t :: l, q => by
    rw [List.all_cons, Bool.and_eq_true, Bool.and_eq_true] at q
    have q1 : t.1 < 163 := Nat.le_of_ble_eq_true q.1.1
    have q2 : t.2.1 < 120 := Nat.le_of_ble_eq_true q.1.2
    have ih := lk3_0 (l := l) h q.2
    show cond (Nat.beq a t.1 && Nat.beq j t.2.1) t.2.2 (lk3 l a j) = 0
    have : (Nat.beq a t.1 && Nat.beq j t.2.1) = false := by
      rw [← Bool.not_eq_true, Bool.and_eq_true]
      intro w
      have w1 := Nat.eq_of_beq_eq_true w.1
      have w2 := Nat.eq_of_beq_eq_true w.2
      omega
    rw [this]; exact ih
theorem LC_in : (LC1 ++ LC0).all (fun t => Nat.blt t.1 163 && Nat.blt t.2.1 120) = true := by decide +kernel
theorem RT0_l : RT0.all (fun l => Nat.ble l.length 120) = true := by decide +kernel
theorem rfn_0 {a j : Nat} (h : 120 ≤ j) : rfn a j = 0 := by
  unfold rfn
  rw [if_neg (by omega), if_neg (by omega)]
  split
  · rfl
  · by_cases c : a < RT0.length
    · have e : RT0.getD a [] = RT0[a] := by rw [List.getD_eq_getElem?_getD, List.getElem?_eq_getElem c]; rfl
      have l := List.all_eq_true.mp RT0_l RT0[a] (List.getElem_mem c)
      have l2 : RT0[a].length ≤ 120 := Nat.le_of_ble_eq_true l
      rw [e, List.getD_eq_getElem?_getD, List.getElem?_eq_none (by omega)]; rfl
    · rw [List.getD_eq_getElem?_getD (l := RT0), List.getElem?_eq_none (by omega)]; rfl
theorem RF_lk {a j : Nat} (h : a < 163) : RF 13 0 (fun _ => 0) 163 a j = ((rfn a j : Nat) : Int) := by
  unfold RF rfn
  rw [if_pos h]
  by_cases c1 : a = 9 ∧ j = 3
  · rw [if_pos c1, if_pos c1]
  · rw [if_neg c1, if_neg c1]
    by_cases c2 : a = 22 ∧ j = 0
    · rw [if_pos c2, if_pos c2]
    · rw [if_neg c2, if_neg c2]
      by_cases c3 : a = 11
      · rw [if_pos c3, if_pos c3]; split <;> rfl
      · rw [if_neg c3, if_neg c3]
theorem LC_RF : up3 LC1 (up3 LC0 (fun _ _ => 0)) = RF 13 0 (fun _ => 0) 163 := by
  rw [up3_app]
  funext a j
  rw [up3_lk]
  by_cases h : a < 163
  · rw [RF_lk h]
    by_cases h2 : j < 120
    · have q := chka_at chka_t h
      rw [Bool.or_eq_true] at q
      rcases q with q | q
      · rw [ch1_at q]
      · rw [chk_at q h2]
    · rw [rfn_0 (by omega), lk3_0 (Or.inr (by omega)) LC_in]
  · rw [lk3_0 (Or.inl (by omega)) LC_in]
    unfold RF
    rw [if_neg h, if_neg h]; rfl

